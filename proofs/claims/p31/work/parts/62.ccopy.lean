/-! STATES ARE COPIED. -/
def SP (σ : St) (b : Int) : Prop :=
  (σ b 2 = b + 1) ∧
  (σ b 3 = b + 2) ∧
  (σ b 4 = b + 3) ∧
  (σ b 5 = b + 4) ∧
  (σ b 6 = b + 5) ∧
  (σ b 7 = b + 6) ∧
  (σ b 8 = b + 7) ∧
  (σ b 9 = b + 13) ∧
  (σ (b + 7) 0 = b + 8) ∧
  (σ (b + 7) 1 = b + 9) ∧
  (σ (b + 7) 2 = b + 10) ∧
  (σ (b + 7) 4 = b + 11) ∧
  (σ (b + 7) 5 = b + 12) ∧
  (σ (b + 13) 2 = b + 14) ∧
  (σ (b + 13) 3 = b + 15) ∧
  (σ (b + 13) 4 = b + 16) ∧
  (σ (b + 13) 5 = b + 17)
theorem SP.p2 {σ : St} {b : Int} (h : SP σ b) : σ b 2 = b + 1 := h.1
theorem SP.p3 {σ : St} {b : Int} (h : SP σ b) : σ b 3 = b + 2 := h.2.1
theorem SP.p4 {σ : St} {b : Int} (h : SP σ b) : σ b 4 = b + 3 := h.2.2.1
theorem SP.p5 {σ : St} {b : Int} (h : SP σ b) : σ b 5 = b + 4 := h.2.2.2.1
theorem SP.p6 {σ : St} {b : Int} (h : SP σ b) : σ b 6 = b + 5 := h.2.2.2.2.1
theorem SP.p7 {σ : St} {b : Int} (h : SP σ b) : σ b 7 = b + 6 := h.2.2.2.2.2.1
theorem SP.p8 {σ : St} {b : Int} (h : SP σ b) : σ b 8 = b + 7 := h.2.2.2.2.2.2.1
theorem SP.p9 {σ : St} {b : Int} (h : SP σ b) : σ b 9 = b + 13 := h.2.2.2.2.2.2.2.1
theorem SP.e0 {σ : St} {b : Int} (h : SP σ b) : σ (b + 7) 0 = b + 8 := h.2.2.2.2.2.2.2.2.1
theorem SP.e1 {σ : St} {b : Int} (h : SP σ b) : σ (b + 7) 1 = b + 9 := h.2.2.2.2.2.2.2.2.2.1
theorem SP.e2 {σ : St} {b : Int} (h : SP σ b) : σ (b + 7) 2 = b + 10 := h.2.2.2.2.2.2.2.2.2.2.1
theorem SP.e4 {σ : St} {b : Int} (h : SP σ b) : σ (b + 7) 4 = b + 11 := h.2.2.2.2.2.2.2.2.2.2.2.1
theorem SP.e5 {σ : St} {b : Int} (h : SP σ b) : σ (b + 7) 5 = b + 12 := h.2.2.2.2.2.2.2.2.2.2.2.2.1
theorem SP.l2 {σ : St} {b : Int} (h : SP σ b) : σ (b + 13) 2 = b + 14 := h.2.2.2.2.2.2.2.2.2.2.2.2.2.1
theorem SP.l3 {σ : St} {b : Int} (h : SP σ b) : σ (b + 13) 3 = b + 15 := h.2.2.2.2.2.2.2.2.2.2.2.2.2.2.1
theorem SP.l4 {σ : St} {b : Int} (h : SP σ b) : σ (b + 13) 4 = b + 16 := h.2.2.2.2.2.2.2.2.2.2.2.2.2.2.2.1
theorem SP.l5 {σ : St} {b : Int} (h : SP σ b) : σ (b + 13) 5 = b + 17 := h.2.2.2.2.2.2.2.2.2.2.2.2.2.2.2.2
section ZW
variable {P : Shp} {σ σ' σ1 : St} {t f f' f2 g g' : Int → Int} {B : Int} {a b b' d k p q kind who m h j c x y i v w part : Int} {n : Nat}
def BL : List Nat := [27, 47, 65, 83, 101, 119, 137, 155, 173, 191, 209, 229, 247]
def isB (b : Int) : Prop := ∃ n : Nat, n ∈ BL ∧ b = (n : Int)
theorem stPL : ∀ n ∈ BL, ∀ j : Nat, j < 18 → PL[n + j]? = stS[j]? := by decide +kernel
theorem stDJ : ∀ n ∈ BL, ∀ m ∈ BL, n ≠ m → n + 17 < m ∨ m + 17 < n := by decide +kernel
theorem stRG : ∀ n ∈ BL, 27 ≤ n ∧ n ≤ 247 := by decide +kernel
theorem isB.dj (h : isB b) (h' : isB b') (e : b ≠ b') : b + 17 < b' ∨ b' + 17 < b := by
  obtain ⟨n, hn, rfl⟩ := h
  obtain ⟨m, hm, rfl⟩ := h'
  have := stDJ n hn m hm (fun w => e (by rw [w]))
  omega
theorem isB.rg (h : isB b) : 27 ≤ b ∧ b ≤ 247 := by
  obtain ⟨n, hn, rfl⟩ := h
  have := stRG n hn
  omega
theorem isB.Pj {w : Nat × Nat} (h : isB b) (sh : ShpIs P 279 PL) (j : Nat) (hj : j < 18) (e : stS[j]? = some w) : P (b + (j : Int)) = some w := by
  obtain ⟨n, hn, rfl⟩ := h
  have := sh (n + j) w ((stPL n hn j hj).trans e)
  rw [Int.natCast_add] at this
  exact this
theorem isB.O0 (h : isB b) (sh : ShpIs P 279 PL) : okO P 6 b = true := by have := h.Pj sh 0 (by omega) (w := (6, 0)) rfl; rw [show b + ((0 : Nat) : Int) = b by omega] at this; exact okO_i this
theorem isB.O7 (h : isB b) (sh : ShpIs P 279 PL) : okO P 0 (b + 7) = true := okO_i (h.Pj sh 7 (by omega) (w := (0, 0)) rfl)
theorem isB.O13 (h : isB b) (sh : ShpIs P 279 PL) : okO P 3 (b + 13) = true := okO_i (h.Pj sh 13 (by omega) (w := (3, 0)) rfl)
theorem okC_i {l1 l2 kd : Nat} {a sp b dp n : Int} (h1 : P a = some (kd, l1)) (h2 : P b = some (kd, l2)) (h3 : 0 ≤ sp) (h4 : 0 ≤ dp) (h5 : 0 ≤ n) (h6 : sp + n ≤ l1) (h7 : dp + n ≤ l2) : okC P kd a sp b dp n = true := by
  unfold okC
  rw [h1, h2]
  simp [h3, h4, h5, h6, h7]
theorem z_cp {α : Type} {K : St → Option α} {kd : Nat} {a sp b dp n : Int} : cpA P kd σ a sp b dp n K = if okC P kd a sp b dp n = true then K (cps σ a sp b dp n) else none := rfl
theorem cps_n {a b y n sp dp : Int} (h : y ≠ b) : cps σ a sp b dp n y j = σ y j := by unfold cps; rw [if_neg (fun w => h w.1)]
theorem cps_o {a b y n sp dp : Int} (h : y ≠ b) : cps σ a sp b dp n y = σ y := by funext j; exact cps_n h
theorem cps_s {a b n : Int} (h0 : 0 ≤ j) (h1 : j < n) : cps σ a 0 b 0 n b j = σ a j := by unfold cps; rw [if_pos ⟨rfl, h0, by omega⟩]; congr 1; omega
theorem isB.C1 (h : isB b) (h' : isB b') (sh : ShpIs P 279 PL) : okC P 10 (b + 1) 0 (b' + 1) 0 8 = true := okC_i (h.Pj sh 1 (by omega) (w := (10, 8)) rfl) (h'.Pj sh 1 (by omega) (w := (10, 8)) rfl) (by omega) (by omega) (by omega) (by omega) (by omega)
theorem isB.C2 (h : isB b) (h' : isB b') (sh : ShpIs P 279 PL) : okC P 10 (b + 2) 0 (b' + 2) 0 8 = true := okC_i (h.Pj sh 2 (by omega) (w := (10, 8)) rfl) (h'.Pj sh 2 (by omega) (w := (10, 8)) rfl) (by omega) (by omega) (by omega) (by omega) (by omega)
theorem isB.C3 (h : isB b) (h' : isB b') (sh : ShpIs P 279 PL) : okC P 10 (b + 3) 0 (b' + 3) 0 12 = true := okC_i (h.Pj sh 3 (by omega) (w := (10, 12)) rfl) (h'.Pj sh 3 (by omega) (w := (10, 12)) rfl) (by omega) (by omega) (by omega) (by omega) (by omega)
theorem isB.C4 (h : isB b) (h' : isB b') (sh : ShpIs P 279 PL) : okC P 10 (b + 4) 0 (b' + 4) 0 12 = true := okC_i (h.Pj sh 4 (by omega) (w := (10, 12)) rfl) (h'.Pj sh 4 (by omega) (w := (10, 12)) rfl) (by omega) (by omega) (by omega) (by omega) (by omega)
theorem isB.C5 (h : isB b) (h' : isB b') (sh : ShpIs P 279 PL) : okC P 10 (b + 5) 0 (b' + 5) 0 12 = true := okC_i (h.Pj sh 5 (by omega) (w := (10, 12)) rfl) (h'.Pj sh 5 (by omega) (w := (10, 12)) rfl) (by omega) (by omega) (by omega) (by omega) (by omega)
theorem isB.C6 (h : isB b) (h' : isB b') (sh : ShpIs P 279 PL) : okC P 11 (b + 6) 0 (b' + 6) 0 12 = true := okC_i (h.Pj sh 6 (by omega) (w := (11, 12)) rfl) (h'.Pj sh 6 (by omega) (w := (11, 12)) rfl) (by omega) (by omega) (by omega) (by omega) (by omega)
theorem isB.C8 (h : isB b) (h' : isB b') (sh : ShpIs P 279 PL) : okC P 10 (b + 8) 0 (b' + 8) 0 8 = true := okC_i (h.Pj sh 8 (by omega) (w := (10, 8)) rfl) (h'.Pj sh 8 (by omega) (w := (10, 8)) rfl) (by omega) (by omega) (by omega) (by omega) (by omega)
theorem isB.C9 (h : isB b) (h' : isB b') (sh : ShpIs P 279 PL) : okC P 10 (b + 9) 0 (b' + 9) 0 96 = true := okC_i (h.Pj sh 9 (by omega) (w := (10, 96)) rfl) (h'.Pj sh 9 (by omega) (w := (10, 96)) rfl) (by omega) (by omega) (by omega) (by omega) (by omega)
theorem isB.C10 (h : isB b) (h' : isB b') (sh : ShpIs P 279 PL) : okC P 10 (b + 10) 0 (b' + 10) 0 96 = true := okC_i (h.Pj sh 10 (by omega) (w := (10, 96)) rfl) (h'.Pj sh 10 (by omega) (w := (10, 96)) rfl) (by omega) (by omega) (by omega) (by omega) (by omega)
theorem isB.C11 (h : isB b) (h' : isB b') (sh : ShpIs P 279 PL) : okC P 10 (b + 11) 0 (b' + 11) 0 32 = true := okC_i (h.Pj sh 11 (by omega) (w := (10, 32)) rfl) (h'.Pj sh 11 (by omega) (w := (10, 32)) rfl) (by omega) (by omega) (by omega) (by omega) (by omega)
theorem isB.C12 (h : isB b) (h' : isB b') (sh : ShpIs P 279 PL) : okC P 10 (b + 12) 0 (b' + 12) 0 32 = true := okC_i (h.Pj sh 12 (by omega) (w := (10, 32)) rfl) (h'.Pj sh 12 (by omega) (w := (10, 32)) rfl) (by omega) (by omega) (by omega) (by omega) (by omega)
theorem isB.C14 (h : isB b) (h' : isB b') (sh : ShpIs P 279 PL) : okC P 10 (b + 14) 0 (b' + 14) 0 24 = true := okC_i (h.Pj sh 14 (by omega) (w := (10, 24)) rfl) (h'.Pj sh 14 (by omega) (w := (10, 24)) rfl) (by omega) (by omega) (by omega) (by omega) (by omega)
theorem isB.C15 (h : isB b) (h' : isB b') (sh : ShpIs P 279 PL) : okC P 10 (b + 15) 0 (b' + 15) 0 24 = true := okC_i (h.Pj sh 15 (by omega) (w := (10, 24)) rfl) (h'.Pj sh 15 (by omega) (w := (10, 24)) rfl) (by omega) (by omega) (by omega) (by omega) (by omega)
theorem isB.C16 (h : isB b) (h' : isB b') (sh : ShpIs P 279 PL) : okC P 10 (b + 16) 0 (b' + 16) 0 24 = true := okC_i (h.Pj sh 16 (by omega) (w := (10, 24)) rfl) (h'.Pj sh 16 (by omega) (w := (10, 24)) rfl) (by omega) (by omega) (by omega) (by omega) (by omega)
theorem isB.C17 (h : isB b) (h' : isB b') (sh : ShpIs P 279 PL) : okC P 10 (b + 17) 0 (b' + 17) 0 10 = true := okC_i (h.Pj sh 17 (by omega) (w := (10, 10)) rfl) (h'.Pj sh 17 (by omega) (w := (10, 10)) rfl) (by omega) (by omega) (by omega) (by omega) (by omega)
theorem isB.N (h : isB b) (h0 : 0 ≤ c) : (b + c = -1) = False := by have := h.rg; exact eq_false (by omega)
theorem isB.N0 (h : isB b) : (b = -1) = False := by have := h.rg; exact eq_false (by omega)
def cpB (σ : St) (b b' : Int) : St := cps (cps (cps (cps (wr (wr (cps (cps (cps (cps (cps (wr (cps (cps (cps (cps (cps (cps (wr (wr σ b' 0 (σ b 0)) b' 1 (σ b 1)) (b + 1) 0 (b' + 1) 0 8) (b + 2) 0 (b' + 2) 0 8) (b + 3) 0 (b' + 3) 0 12) (b + 4) 0 (b' + 4) 0 12) (b + 5) 0 (b' + 5) 0 12) (b + 6) 0 (b' + 6) 0 12) (b' + 7) 3 (σ (b + 7) 3)) (b + 8) 0 (b' + 8) 0 8) (b + 9) 0 (b' + 9) 0 96) (b + 10) 0 (b' + 10) 0 96) (b + 11) 0 (b' + 11) 0 32) (b + 12) 0 (b' + 12) 0 32) (b' + 13) 0 (σ (b + 13) 0)) (b' + 13) 1 (σ (b + 13) 1)) (b + 14) 0 (b' + 14) 0 24) (b + 15) 0 (b' + 15) 0 24) (b + 16) 0 (b' + 16) 0 24) (b + 17) 0 (b' + 17) 0 10
theorem SR.sp (S : SR σ b t f g) : SP σ b := ⟨S.p2, S.p3, S.p4, S.p5, S.p6, S.p7, S.p8, S.p9, S.e0, S.e1, S.e2, S.e4, S.e5, S.l2, S.l3, S.l4, S.l5⟩
theorem SP.gg (h : SP σ b) (e0 : ∀ j, 2 ≤ j → σ' b j = σ b j) (e7 : ∀ j, j ≠ 3 → σ' (b + 7) j = σ (b + 7) j) (e13 : ∀ j, 2 ≤ j → σ' (b + 13) j = σ (b + 13) j) : SP σ' b := by
  unfold SP
  rw [e0 2 (by omega), e0 3 (by omega), e0 4 (by omega), e0 5 (by omega), e0 6 (by omega), e0 7 (by omega), e0 8 (by omega), e0 9 (by omega), e7 0 (by omega), e7 1 (by omega), e7 2 (by omega), e7 4 (by omega), e7 5 (by omega), e13 2 (by omega), e13 3 (by omega), e13 4 (by omega), e13 5 (by omega)]
  exact h
theorem cp_step {kd kc : Nat} {s : St} {o o' i X Y n : Int} {K : St → Option St} (h1 : okO P kd o = true) (h2 : okO P kd o' = true) (hx : s o i = X) (hy : s o' i = Y) (x1 : (X = -1) = False) (y1 : (Y = -1) = False) (hc : okC P kc X 0 Y 0 n = true) : (gR P kd s o i fun x => gR P kd s o' i fun y => cpA P kc s x 0 y 0 n K) = K (cps s X 0 Y 0 n) := by
  subst hx hy
  simp only [z_gR, h1, h2, x1, y1, if_true, if_false, z_cp, hc]
theorem cw_step {kd : Nat} {s : St} {o o' i : Int} {K : St → Option St} (h1 : okO P kd o = true) (h2 : okO P kd o' = true) : (gF P kd s o i fun x => pF P kd s o' i x K) = K (wr s o' i (s o i)) := by
  simp only [z_gF, z_pF, h1, h2, if_true]
theorem SP.ca {a y n : Int} (h : SP σ b) (hy : y ≠ b ∧ y ≠ b + 7 ∧ y ≠ b + 13) : SP (cps σ a 0 y 0 n) b :=
  h.gg (fun j _ => cps_n (Ne.symm hy.1)) (fun j _ => cps_n (Ne.symm hy.2.1)) (fun j _ => cps_n (Ne.symm hy.2.2))
theorem SP.cw {y i v : Int} (h : SP σ b) (hy : (y = b → i < 2) ∧ (y = b + 7 → i = 3) ∧ (y = b + 13 → i < 2)) : SP (wr σ y i v) b := by
  refine h.gg (fun j hj => ?_) (fun j hj => ?_) (fun j hj => ?_)
  · by_cases e : y = b
    · subst e; exact wr_i (by have := hy.1 rfl; omega)
    · exact wr_n (Ne.symm e)
  · by_cases e : y = b + 7
    · subst e; exact wr_i (by have := hy.2.1 rfl; omega)
    · exact wr_n (Ne.symm e)
  · by_cases e : y = b + 13
    · subst e; exact wr_i (by have := hy.2.2 rfl; omega)
    · exact wr_n (Ne.symm e)
theorem c_cpE {s : St} (sh : ShpIs P 279 PL) (hb : isB b) (hb' : isB b') (hne : b ≠ b') (S : SP s b) (S' : SP s b') : fX0_copyFrom P s (b' + 7) (b + 7) = some (cps (cps (cps (cps (cps (wr s (b' + 7) 3 (s (b + 7) 3)) (b + 8) 0 (b' + 8) 0 8) (b + 9) 0 (b' + 9) 0 96) (b + 10) 0 (b' + 10) 0 96) (b + 11) 0 (b' + 11) 0 32) (b + 12) 0 (b' + 12) 0 32) := by
  have dj := hb.dj hb' hne
  unfold fX0_copyFrom
  refine (cw_step (hb.O7 sh) (hb'.O7 sh)).trans ?_
  replace S := S.cw (y := b' + 7) (i := 3) (v := s (b + 7) 3) (by omega)
  replace S' := S'.cw (y := b' + 7) (i := 3) (v := s (b + 7) 3) (by omega)
  generalize wr s (b' + 7) 3 (s (b + 7) 3) = s2 at S S' ⊢
  refine (cp_step (hb.O7 sh) (hb'.O7 sh) S.e0 S'.e0 (hb.N (by omega)) (hb'.N (by omega)) (hb.C8 hb' sh)).trans ?_
  replace S := S.ca (a := b + 8) (y := b' + 8) (n := 8) (by omega)
  replace S' := S'.ca (a := b + 8) (y := b' + 8) (n := 8) (by omega)
  generalize cps s2 (b + 8) 0 (b' + 8) 0 8 = s3 at S S' ⊢
  refine (cp_step (hb.O7 sh) (hb'.O7 sh) S.e1 S'.e1 (hb.N (by omega)) (hb'.N (by omega)) (hb.C9 hb' sh)).trans ?_
  replace S := S.ca (a := b + 9) (y := b' + 9) (n := 96) (by omega)
  replace S' := S'.ca (a := b + 9) (y := b' + 9) (n := 96) (by omega)
  generalize cps s3 (b + 9) 0 (b' + 9) 0 96 = s4 at S S' ⊢
  refine (cp_step (hb.O7 sh) (hb'.O7 sh) S.e2 S'.e2 (hb.N (by omega)) (hb'.N (by omega)) (hb.C10 hb' sh)).trans ?_
  replace S := S.ca (a := b + 10) (y := b' + 10) (n := 96) (by omega)
  replace S' := S'.ca (a := b + 10) (y := b' + 10) (n := 96) (by omega)
  generalize cps s4 (b + 10) 0 (b' + 10) 0 96 = s5 at S S' ⊢
  refine (cp_step (hb.O7 sh) (hb'.O7 sh) S.e4 S'.e4 (hb.N (by omega)) (hb'.N (by omega)) (hb.C11 hb' sh)).trans ?_
  replace S := S.ca (a := b + 11) (y := b' + 11) (n := 32) (by omega)
  replace S' := S'.ca (a := b + 11) (y := b' + 11) (n := 32) (by omega)
  generalize cps s5 (b + 11) 0 (b' + 11) 0 32 = s6 at S S' ⊢
  refine (cp_step (hb.O7 sh) (hb'.O7 sh) S.e5 S'.e5 (hb.N (by omega)) (hb'.N (by omega)) (hb.C12 hb' sh)).trans ?_
  replace S := S.ca (a := b + 12) (y := b' + 12) (n := 32) (by omega)
  replace S' := S'.ca (a := b + 12) (y := b' + 12) (n := 32) (by omega)
  generalize cps s6 (b + 12) 0 (b' + 12) 0 32 = s7 at S S' ⊢
  rfl
theorem c_cpL {s : St} (sh : ShpIs P 279 PL) (hb : isB b) (hb' : isB b') (hne : b ≠ b') (S : SP s b) (S' : SP s b') : fX3_copyFrom P s (b' + 13) (b + 13) = some (cps (cps (cps (cps (wr (wr s (b' + 13) 0 (s (b + 13) 0)) (b' + 13) 1 (s (b + 13) 1)) (b + 14) 0 (b' + 14) 0 24) (b + 15) 0 (b' + 15) 0 24) (b + 16) 0 (b' + 16) 0 24) (b + 17) 0 (b' + 17) 0 10) := by
  have dj := hb.dj hb' hne
  unfold fX3_copyFrom
  refine (cw_step (hb.O13 sh) (hb'.O13 sh)).trans ?_
  replace S := S.cw (y := b' + 13) (i := 0) (v := s (b + 13) 0) (by omega)
  replace S' := S'.cw (y := b' + 13) (i := 0) (v := s (b + 13) 0) (by omega)
  rw [show s (b + 13) 1 = wr s (b' + 13) 0 (s (b + 13) 0) (b + 13) 1 from (wr_n (by omega)).symm]
  generalize wr s (b' + 13) 0 (s (b + 13) 0) = s2 at S S' ⊢
  refine (cw_step (hb.O13 sh) (hb'.O13 sh)).trans ?_
  replace S := S.cw (y := b' + 13) (i := 1) (v := s2 (b + 13) 1) (by omega)
  replace S' := S'.cw (y := b' + 13) (i := 1) (v := s2 (b + 13) 1) (by omega)
  generalize wr s2 (b' + 13) 1 (s2 (b + 13) 1) = s3 at S S' ⊢
  refine (cp_step (hb.O13 sh) (hb'.O13 sh) S.l2 S'.l2 (hb.N (by omega)) (hb'.N (by omega)) (hb.C14 hb' sh)).trans ?_
  replace S := S.ca (a := b + 14) (y := b' + 14) (n := 24) (by omega)
  replace S' := S'.ca (a := b + 14) (y := b' + 14) (n := 24) (by omega)
  generalize cps s3 (b + 14) 0 (b' + 14) 0 24 = s4 at S S' ⊢
  refine (cp_step (hb.O13 sh) (hb'.O13 sh) S.l3 S'.l3 (hb.N (by omega)) (hb'.N (by omega)) (hb.C15 hb' sh)).trans ?_
  replace S := S.ca (a := b + 15) (y := b' + 15) (n := 24) (by omega)
  replace S' := S'.ca (a := b + 15) (y := b' + 15) (n := 24) (by omega)
  generalize cps s4 (b + 15) 0 (b' + 15) 0 24 = s5 at S S' ⊢
  refine (cp_step (hb.O13 sh) (hb'.O13 sh) S.l4 S'.l4 (hb.N (by omega)) (hb'.N (by omega)) (hb.C16 hb' sh)).trans ?_
  replace S := S.ca (a := b + 16) (y := b' + 16) (n := 24) (by omega)
  replace S' := S'.ca (a := b + 16) (y := b' + 16) (n := 24) (by omega)
  generalize cps s5 (b + 16) 0 (b' + 16) 0 24 = s6 at S S' ⊢
  refine (cp_step (hb.O13 sh) (hb'.O13 sh) S.l5 S'.l5 (hb.N (by omega)) (hb'.N (by omega)) (hb.C17 hb' sh)).trans ?_
  replace S := S.ca (a := b + 17) (y := b' + 17) (n := 10) (by omega)
  replace S' := S'.ca (a := b + 17) (y := b' + 17) (n := 10) (by omega)
  generalize cps s6 (b + 17) 0 (b' + 17) 0 10 = s7 at S S' ⊢
  rfl
theorem c_copyFrom (sh : ShpIs P 279 PL) (hb : isB b) (hb' : isB b') (hne : b ≠ b') (S : SP σ b) (S' : SP σ b') : fX6_copyFrom P σ b' b = some (cpB σ b b') := by
  have dj := hb.dj hb' hne
  have q7 : σ (b + 7) 3 = (cps (cps (cps (cps (cps (cps (wr (wr σ b' 0 (σ b 0)) b' 1 (σ b 1)) (b + 1) 0 (b' + 1) 0 8) (b + 2) 0 (b' + 2) 0 8) (b + 3) 0 (b' + 3) 0 12) (b + 4) 0 (b' + 4) 0 12) (b + 5) 0 (b' + 5) 0 12) (b + 6) 0 (b' + 6) 0 12) (b + 7) 3 := by
    simp (disch := omega) only [cps_n, wr_n]
  have q13 : ∀ i, σ (b + 13) i = (cps (cps (cps (cps (cps (cps (wr (wr σ b' 0 (σ b 0)) b' 1 (σ b 1)) (b + 1) 0 (b' + 1) 0 8) (b + 2) 0 (b' + 2) 0 8) (b + 3) 0 (b' + 3) 0 12) (b + 4) 0 (b' + 4) 0 12) (b + 5) 0 (b' + 5) 0 12) (b + 6) 0 (b' + 6) 0 12) (b + 13) i := by
    intro i; simp (disch := omega) only [cps_n, wr_n]
  unfold cpB
  rw [q7, q13 0, q13 1]
  clear q7 q13
  unfold fX6_copyFrom
  refine (cw_step (hb.O0 sh) (hb'.O0 sh)).trans ?_
  replace S := S.cw (y := b') (i := 0) (v := σ b 0) (by omega)
  replace S' := S'.cw (y := b') (i := 0) (v := σ b 0) (by omega)
  rw [show σ b 1 = wr σ b' 0 (σ b 0) b 1 from (wr_n (by omega)).symm]
  generalize wr σ b' 0 (σ b 0) = s2 at S S' ⊢
  refine (cw_step (hb.O0 sh) (hb'.O0 sh)).trans ?_
  replace S := S.cw (y := b') (i := 1) (v := s2 b 1) (by omega)
  replace S' := S'.cw (y := b') (i := 1) (v := s2 b 1) (by omega)
  generalize wr s2 b' 1 (s2 b 1) = s3 at S S' ⊢
  refine (cp_step (hb.O0 sh) (hb'.O0 sh) S.p2 S'.p2 (hb.N (by omega)) (hb'.N (by omega)) (hb.C1 hb' sh)).trans ?_
  replace S := S.ca (a := b + 1) (y := b' + 1) (n := 8) (by omega)
  replace S' := S'.ca (a := b + 1) (y := b' + 1) (n := 8) (by omega)
  generalize cps s3 (b + 1) 0 (b' + 1) 0 8 = s4 at S S' ⊢
  refine (cp_step (hb.O0 sh) (hb'.O0 sh) S.p3 S'.p3 (hb.N (by omega)) (hb'.N (by omega)) (hb.C2 hb' sh)).trans ?_
  replace S := S.ca (a := b + 2) (y := b' + 2) (n := 8) (by omega)
  replace S' := S'.ca (a := b + 2) (y := b' + 2) (n := 8) (by omega)
  generalize cps s4 (b + 2) 0 (b' + 2) 0 8 = s5 at S S' ⊢
  refine (cp_step (hb.O0 sh) (hb'.O0 sh) S.p4 S'.p4 (hb.N (by omega)) (hb'.N (by omega)) (hb.C3 hb' sh)).trans ?_
  replace S := S.ca (a := b + 3) (y := b' + 3) (n := 12) (by omega)
  replace S' := S'.ca (a := b + 3) (y := b' + 3) (n := 12) (by omega)
  generalize cps s5 (b + 3) 0 (b' + 3) 0 12 = s6 at S S' ⊢
  refine (cp_step (hb.O0 sh) (hb'.O0 sh) S.p5 S'.p5 (hb.N (by omega)) (hb'.N (by omega)) (hb.C4 hb' sh)).trans ?_
  replace S := S.ca (a := b + 4) (y := b' + 4) (n := 12) (by omega)
  replace S' := S'.ca (a := b + 4) (y := b' + 4) (n := 12) (by omega)
  generalize cps s6 (b + 4) 0 (b' + 4) 0 12 = s7 at S S' ⊢
  refine (cp_step (hb.O0 sh) (hb'.O0 sh) S.p6 S'.p6 (hb.N (by omega)) (hb'.N (by omega)) (hb.C5 hb' sh)).trans ?_
  replace S := S.ca (a := b + 5) (y := b' + 5) (n := 12) (by omega)
  replace S' := S'.ca (a := b + 5) (y := b' + 5) (n := 12) (by omega)
  generalize cps s7 (b + 5) 0 (b' + 5) 0 12 = s8 at S S' ⊢
  refine (cp_step (hb.O0 sh) (hb'.O0 sh) S.p7 S'.p7 (hb.N (by omega)) (hb'.N (by omega)) (hb.C6 hb' sh)).trans ?_
  replace S := S.ca (a := b + 6) (y := b' + 6) (n := 12) (by omega)
  replace S' := S'.ca (a := b + 6) (y := b' + 6) (n := 12) (by omega)
  generalize cps s8 (b + 6) 0 (b' + 6) 0 12 = s9 at S S' ⊢
  have e1 := c_cpE sh hb hb' hne S S'
  have r7 : ∀ i, s9 (b + 13) i = cps (cps (cps (cps (cps (wr s9 (b' + 7) 3 (s9 (b + 7) 3)) (b + 8) 0 (b' + 8) 0 8) (b + 9) 0 (b' + 9) 0 96) (b + 10) 0 (b' + 10) 0 96) (b + 11) 0 (b' + 11) 0 32) (b + 12) 0 (b' + 12) 0 32 (b + 13) i := by
    intro i; simp (disch := omega) only [cps_n, wr_n]
  have S2 : SP (cps (cps (cps (cps (cps (wr s9 (b' + 7) 3 (s9 (b + 7) 3)) (b + 8) 0 (b' + 8) 0 8) (b + 9) 0 (b' + 9) 0 96) (b + 10) 0 (b' + 10) 0 96) (b + 11) 0 (b' + 11) 0 32) (b + 12) 0 (b' + 12) 0 32) b := (((((S.cw (by omega)).ca (by omega)).ca (by omega)).ca (by omega)).ca (by omega)).ca (by omega)
  have S2' : SP (cps (cps (cps (cps (cps (wr s9 (b' + 7) 3 (s9 (b + 7) 3)) (b + 8) 0 (b' + 8) 0 8) (b + 9) 0 (b' + 9) 0 96) (b + 10) 0 (b' + 10) 0 96) (b + 11) 0 (b' + 11) 0 32) (b + 12) 0 (b' + 12) 0 32) b' := (((((S'.cw (by omega)).ca (by omega)).ca (by omega)).ca (by omega)).ca (by omega)).ca (by omega)
  rw [r7 0, r7 1]
  simp only [↓z_gR, hb.O0 sh, hb'.O0 sh, S.p8, S'.p8, hb.N, hb'.N, ↓reduceIte, if_true, if_false, ↓z_on, hb'.O7 sh, (hb.N (by omega) : (b + 7 = -1) = False), (hb'.N (by omega) : (b' + 7 = -1) = False)]
  rw [e_cl e1]
  generalize cps (cps (cps (cps (cps (wr s9 (b' + 7) 3 (s9 (b + 7) 3)) (b + 8) 0 (b' + 8) 0 8) (b + 9) 0 (b' + 9) 0 96) (b + 10) 0 (b' + 10) 0 96) (b + 11) 0 (b' + 11) 0 32) (b + 12) 0 (b' + 12) 0 32 = s10 at S2 S2' ⊢
  have e2 := c_cpL sh hb hb' hne S2 S2'
  simp only [↓z_gR, hb.O0 sh, hb'.O0 sh, S2.p9, S2'.p9, ↓reduceIte, if_true, if_false, ↓z_on, hb'.O13 sh, (hb.N (by omega) : (b + 13 = -1) = False), (hb'.N (by omega) : (b' + 13 = -1) = False)]
  rw [e_cl e2]
theorem cpB_o (h : j < b' ∨ b' + 17 < j) : cpB σ b b' j = σ j := by
  unfold cpB
  simp (disch := omega) only [wr_o, cps_o]
theorem cpB_SR (hb : isB b) (hb' : isB b') (hne : b ≠ b') (T : TV t) (F : FV B t f g) (V : CV f) (S : SR σ b t f g) (S' : SP σ b') : SR (cpB σ b b') b' t f g := by
  have n1 := T.n1; have n2 := T.n2; have MN := F.mn; have CL := V.le; have CI := fun c => couK_in (f := f) (c := c) V.c0
  have dj := hb.dj hb' hne
  unfold cpB
  refine ⟨?_, ?_, ?_, ?_, ?_, ?_, ?_, ?_, ?_, ?_, ?_, ?_, ?_, ?_, ?_, ?_, ?_, ?_, ?_, ?_, ?_, ?_, ?_, ?_, ?_, ?_, ?_, ?_, ?_, ?_, ?_, ?_, ?_, ?_, ?_, ?_, ?_⟩
  · (simp (disch := omega) only [wr_n, wr_i, cps_n]; exact S'.p2)
  · (simp (disch := omega) only [wr_n, wr_i, cps_n]; exact S'.p3)
  · (simp (disch := omega) only [wr_n, wr_i, cps_n]; exact S'.p4)
  · (simp (disch := omega) only [wr_n, wr_i, cps_n]; exact S'.p5)
  · (simp (disch := omega) only [wr_n, wr_i, cps_n]; exact S'.p6)
  · (simp (disch := omega) only [wr_n, wr_i, cps_n]; exact S'.p7)
  · (simp (disch := omega) only [wr_n, wr_i, cps_n]; exact S'.p8)
  · (simp (disch := omega) only [wr_n, wr_i, cps_n]; exact S'.p9)
  · (simp (disch := omega) only [wr_n, wr_i, cps_n]; exact S'.e0)
  · (simp (disch := omega) only [wr_n, wr_i, cps_n]; exact S'.e1)
  · (simp (disch := omega) only [wr_n, wr_i, cps_n]; exact S'.e2)
  · (simp (disch := omega) only [wr_n, wr_i, cps_n]; exact S'.e4)
  · (simp (disch := omega) only [wr_n, wr_i, cps_n]; exact S'.e5)
  · (simp (disch := omega) only [wr_n, wr_i, cps_n]; exact S'.l2)
  · (simp (disch := omega) only [wr_n, wr_i, cps_n]; exact S'.l3)
  · (simp (disch := omega) only [wr_n, wr_i, cps_n]; exact S'.l4)
  · (simp (disch := omega) only [wr_n, wr_i, cps_n]; exact S'.l5)
  · have q := S.tm; try simp (disch := omega) only [wr_n, wr_i, wr_s, cps_n, cps_s]
    exact q
  · have q := S.sc; try simp (disch := omega) only [wr_n, wr_i, wr_s, cps_n, cps_s]
    exact q
  · intro e e0 e1; have q := S.po e e0 e1; try simp (disch := omega) only [wr_n, wr_i, wr_s, cps_n, cps_s]
    exact q
  · intro e e0 e1; have q := S.al e e0 e1; try simp (disch := omega) only [wr_n, wr_i, wr_s, cps_n, cps_s]
    exact q
  · intro e e0 e1; have q := S.ho e e0 e1; try simp (disch := omega) only [wr_n, wr_i, wr_s, cps_n, cps_s]
    exact q
  · intro e e0 e1; have q := S.mo e e0 e1; try simp (disch := omega) only [wr_n, wr_i, wr_s, cps_n, cps_s]
    exact q
  · intro e e0 e1; have q := S.dn e e0 e1; try simp (disch := omega) only [wr_n, wr_i, wr_s, cps_n, cps_s]
    exact q
  · intro e e0 e1; have q := S.se e e0 e1; try simp (disch := omega) only [wr_n, wr_i, wr_s, cps_n, cps_s]
    exact q
  · intro e e0 e1; have q := S.ke e e0 e1; try simp (disch := omega) only [wr_n, wr_i, wr_s, cps_n, cps_s]
    exact q
  · intro e u e0 e1 u0 u1; have mn := MN e e0 e1; try simp (disch := omega) only [wr_n, wr_i, wr_s, cps_n, cps_s] at u1
    have q := S.ki e u e0 e1 u0 u1; try simp (disch := omega) only [wr_n, wr_i, wr_s, cps_n, cps_s]
    exact q
  · intro e u e0 e1 u0 u1; have mn := MN e e0 e1; try simp (disch := omega) only [wr_n, wr_i, wr_s, cps_n, cps_s] at u1
    have q := S.ti e u e0 e1 u0 u1; try simp (disch := omega) only [wr_n, wr_i, wr_s, cps_n, cps_s]
    exact q
  · have q := S.ca; try simp (disch := omega) only [wr_n, wr_i, wr_s, cps_n, cps_s]
    exact q
  · intro e e0 e1; try simp (disch := omega) only [wr_n, wr_i, wr_s, cps_n, cps_s] at e1
    have q := S.co e e0 e1; have cl := CL; try simp (disch := omega) only [wr_n, wr_i, wr_s, cps_n, cps_s]
    exact q
  · intro e e0 e1; have ci := CI e; have cl := CL; have q := S.ct e e0 e1; try simp (disch := omega) only [wr_n, wr_i, wr_s, cps_n, cps_s]
    exact q
  · have q := S.lk; try simp (disch := omega) only [wr_n, wr_i, wr_s, cps_n, cps_s]
    exact q
  · have q := S.ln; try simp (disch := omega) only [wr_n, wr_i, wr_s, cps_n, cps_s]
    exact q
  · intro e e0 e1 e2; try simp (disch := omega) only [wr_n, wr_i, wr_s, cps_n, cps_s] at e2
    have q := S.lq e e0 e1 e2; try simp (disch := omega) only [wr_n, wr_i, wr_s, cps_n, cps_s]
    exact q
  · intro e e0 e1 e2; try simp (disch := omega) only [wr_n, wr_i, wr_s, cps_n, cps_s] at e2
    have q := S.li e e0 e1 e2; try simp (disch := omega) only [wr_n, wr_i, wr_s, cps_n, cps_s]
    exact q
  · intro e e0 e1 e2; try simp (disch := omega) only [wr_n, wr_i, wr_s, cps_n, cps_s] at e2
    have q := S.lt e e0 e1 e2; try simp (disch := omega) only [wr_n, wr_i, wr_s, cps_n, cps_s]
    exact q
  · intro e e0 e1; have q := S.to e e0 e1; try simp (disch := omega) only [wr_n, wr_i, wr_s, cps_n, cps_s]
    exact q
end ZW
