/-! HISTORY AND SNAPSHOTS. -/
section ZX
variable {P : Shp} {σ σ' σ1 : St} {t f f' f2 g g' : Int → Int} {B : Int} {a b b' d k p q kind who m h j c x y i v w part N K D : Int} {n : Nat}
theorem couK_a (V : CV f) (e : ∀ j, 0 ≤ j → j < 410 → f' j = f j) (c : Int) : couK f' c = couK f c := by
  have c0 := V.c0
  have cl := V.le
  exact couK_c c0 (e 13 (by omega) (by omega)) fun j j0 j1 => e _ (by omega) (by omega)
theorem SR.ag (S : SR σ b t f g) (T : TV t) (F : FV B t f g) (V : CV f) (ef : ∀ j, 0 ≤ j → j < 410 → f' j = f j) (eg : ∀ k, 0 ≤ k → k < 12 → g' k = g k) : SR σ b t f' g' := by
  have n1 := T.n1; have n2 := T.n2; have MN := F.mn; have CL := V.le; have CI := fun c => couK_in (f := f) (c := c) V.c0
  have ek := couK_a V ef
  refine ⟨?_, ?_, ?_, ?_, ?_, ?_, ?_, ?_, ?_, ?_, ?_, ?_, ?_, ?_, ?_, ?_, ?_, ?_, ?_, ?_, ?_, ?_, ?_, ?_, ?_, ?_, ?_, ?_, ?_, ?_, ?_, ?_, ?_, ?_, ?_, ?_, ?_⟩
  · have q := S.p2; try simp (disch := omega) only [ef, eg, ek]
    exact q
  · have q := S.p3; try simp (disch := omega) only [ef, eg, ek]
    exact q
  · have q := S.p4; try simp (disch := omega) only [ef, eg, ek]
    exact q
  · have q := S.p5; try simp (disch := omega) only [ef, eg, ek]
    exact q
  · have q := S.p6; try simp (disch := omega) only [ef, eg, ek]
    exact q
  · have q := S.p7; try simp (disch := omega) only [ef, eg, ek]
    exact q
  · have q := S.p8; try simp (disch := omega) only [ef, eg, ek]
    exact q
  · have q := S.p9; try simp (disch := omega) only [ef, eg, ek]
    exact q
  · have q := S.e0; try simp (disch := omega) only [ef, eg, ek]
    exact q
  · have q := S.e1; try simp (disch := omega) only [ef, eg, ek]
    exact q
  · have q := S.e2; try simp (disch := omega) only [ef, eg, ek]
    exact q
  · have q := S.e4; try simp (disch := omega) only [ef, eg, ek]
    exact q
  · have q := S.e5; try simp (disch := omega) only [ef, eg, ek]
    exact q
  · have q := S.l2; try simp (disch := omega) only [ef, eg, ek]
    exact q
  · have q := S.l3; try simp (disch := omega) only [ef, eg, ek]
    exact q
  · have q := S.l4; try simp (disch := omega) only [ef, eg, ek]
    exact q
  · have q := S.l5; try simp (disch := omega) only [ef, eg, ek]
    exact q
  · have q := S.tm; try simp (disch := omega) only [ef, eg, ek]
    exact q
  · have q := S.sc; try simp (disch := omega) only [ef, eg, ek]
    exact q
  · intro e e0 e1; have q := S.po e e0 e1; try simp (disch := omega) only [ef, eg, ek]
    exact q
  · intro e e0 e1; have q := S.al e e0 e1; try simp (disch := omega) only [ef, eg, ek]
    exact q
  · intro e e0 e1; have q := S.ho e e0 e1; try simp (disch := omega) only [ef, eg, ek]
    exact q
  · intro e e0 e1; have q := S.mo e e0 e1; try simp (disch := omega) only [ef, eg, ek]
    exact q
  · intro e e0 e1; have q := S.dn e e0 e1; try simp (disch := omega) only [ef, eg, ek]
    exact q
  · intro e e0 e1; have q := S.se e e0 e1; try simp (disch := omega) only [ef, eg, ek]
    exact q
  · intro e e0 e1; have q := S.ke e e0 e1; try simp (disch := omega) only [ef, eg, ek]
    exact q
  · intro e u e0 e1 u0 u1; have mn := MN e e0 e1; try simp (disch := omega) only [ef, eg, ek] at u1
    have q := S.ki e u e0 e1 u0 u1; try simp (disch := omega) only [ef, eg, ek]
    exact q
  · intro e u e0 e1 u0 u1; have mn := MN e e0 e1; try simp (disch := omega) only [ef, eg, ek] at u1
    have q := S.ti e u e0 e1 u0 u1; try simp (disch := omega) only [ef, eg, ek]
    exact q
  · have q := S.ca; try simp (disch := omega) only [ef, eg, ek]
    exact q
  · intro e e0 e1; try simp (disch := omega) only [ef, eg, ek] at e1
    have q := S.co e e0 e1; have cl := CL; try simp (disch := omega) only [ef, eg, ek]
    exact q
  · intro e e0 e1; have ci := CI e; have cl := CL; have q := S.ct e e0 e1; try simp (disch := omega) only [ef, eg, ek]
    exact q
  · have q := S.lk; try simp (disch := omega) only [ef, eg, ek]
    exact q
  · have q := S.ln; try simp (disch := omega) only [ef, eg, ek]
    exact q
  · intro e e0 e1 e2; try simp (disch := omega) only [ef, eg, ek] at e2
    have q := S.lq e e0 e1 e2; try simp (disch := omega) only [ef, eg, ek]
    exact q
  · intro e e0 e1 e2; try simp (disch := omega) only [ef, eg, ek] at e2
    have q := S.li e e0 e1 e2; try simp (disch := omega) only [ef, eg, ek]
    exact q
  · intro e e0 e1 e2; try simp (disch := omega) only [ef, eg, ek] at e2
    have q := S.lt e e0 e1 e2; try simp (disch := omega) only [ef, eg, ek]
    exact q
  · intro e e0 e1; have q := S.to e e0 e1; try simp (disch := omega) only [ef, eg, ek]
    exact q
theorem CV.ag (V : CV f) (ef : ∀ j, 0 ≤ j → j < 410 → f' j = f j) : CV f' := V.to fun j hj => ef j (by omega) (by omega)
theorem FV.ag (F : FV B t f g) (T : TV t) (ef : ∀ j, 0 ≤ j → j < 410 → f' j = f j) (eg : ∀ j, 0 ≤ g' j ∧ g' j ≤ 10000 * B) (bl : ∀ j, -1 ≤ f' j ∧ f' j ≤ B) : FV B t f' g' := by
  have n1 := T.n1
  have n2 := T.n2
  refine ⟨F.b0, bl, eg, ?_, ?_, ?_, ?_, ?_, ?_, ?_, ?_, ?_⟩
  · simp (disch := omega) only [ef]; exact F.tq
  · simp (disch := omega) only [ef]; exact F.ev
  · intro e e0 e1; have := F.al e e0 e1; simp (disch := omega) only [ef]; exact this
  · intro e e0 e1; have := F.un e e0 e1; simp (disch := omega) only [ef]; exact this
  · intro e e0 e1; have := F.si e e0 e1; simp (disch := omega) only [ef]; exact this
  · intro e e0 e1; have := F.mn e e0 e1; simp (disch := omega) only [ef]; exact this
  · intro e e0 e1; have := F.mo e e0 e1; simp (disch := omega) only [ef]; exact this
  · intro e e0 e1; have := F.ho e e0 e1; simp (disch := omega) only [ef]; exact this
  · intro e e0 e1; have := F.dn e e0 e1; simp (disch := omega) only [ef]; exact this
/-- an entry of a row of states -/
def cuF (a : Int → Int) (e : Int) : Int → Int := fun i => if 0 ≤ i ∧ i < 410 then a (410 * e + i) else 0
def cuG (a : Int → Int) (e : Int) : Int → Int := fun i => if 0 ≤ i ∧ i < 12 then a (12 * e + i) else 0
theorem cuF_s (h0 : 0 ≤ j) (h1 : j < 410) : cuF f k j = f (410 * k + j) := if_pos ⟨h0, h1⟩
theorem cuG_s (h0 : 0 ≤ j) (h1 : j < 12) : cuG f k j = f (12 * k + j) := if_pos ⟨h0, h1⟩
/-- a kept state: the class's, the reference's -/
def KS (σ : St) (b B : Int) (t f g : Int → Int) : Prop := SR σ b t f g ∧ FV B t f g ∧ CV f
theorem KS.cut (h : KS σ b B t f g) (T : TV t) (ef : ∀ j, 0 ≤ j → j < 410 → f' (410 * k + j) = f j) (eg : ∀ j, 0 ≤ j → j < 12 → g' (12 * k + j) = g j) : KS σ b B t (cuF f' k) (cuG g' k) := by
  obtain ⟨S, F, V⟩ := h
  have e1 : ∀ j, 0 ≤ j → j < 410 → cuF f' k j = f j := fun j j0 j1 => (cuF_s j0 j1).trans (ef j j0 j1)
  have e2 : ∀ j, 0 ≤ j → j < 12 → cuG g' k j = g j := fun j j0 j1 => (cuG_s j0 j1).trans (eg j j0 j1)
  refine ⟨S.ag T F V e1 e2, F.ag T e1 (fun j => ?_) (fun j => ?_), V.ag e1⟩
  · have b0 := F.b0
    by_cases z : 0 ≤ j ∧ j < 12
    · rw [e2 j z.1 z.2]; exact F.bg j
    · unfold cuG; rw [if_neg z]; omega
  · have b0 := F.b0
    by_cases z : 0 ≤ j ∧ j < 410
    · rw [e1 j z.1 z.2]; exact F.bl j
    · unfold cuF; rw [if_neg z]; omega
/-- a row's entry comes back -/
def mxF (a : Int → Int) (e : Int) (f : Int → Int) : Int → Int := fun i => if 0 ≤ i ∧ i < 410 then a (410 * e + i) else f i
def mxG (a : Int → Int) (e : Int) (g : Int → Int) : Int → Int := fun i => if 0 ≤ i ∧ i < 12 then a (12 * e + i) else g i
theorem KS.mx {a ag : Int → Int} (h : KS σ b B t (cuF a k) (cuG ag k)) (T : TV t) (F : FV B t f g) : KS σ b B t (mxF a k f) (mxG ag k g) := by
  obtain ⟨S, F1, V⟩ := h
  have e1 : ∀ j, 0 ≤ j → j < 410 → mxF a k f j = cuF a k j := fun j j0 j1 => by unfold mxF cuF; rw [if_pos ⟨j0, j1⟩, if_pos ⟨j0, j1⟩]
  have e2 : ∀ j, 0 ≤ j → j < 12 → mxG ag k g j = cuG ag k j := fun j j0 j1 => by unfold mxG cuG; rw [if_pos ⟨j0, j1⟩, if_pos ⟨j0, j1⟩]
  refine ⟨S.ag T F1 V e1 e2, F1.ag T e1 (fun j => ?_) (fun j => ?_), V.ag e1⟩
  · by_cases z : 0 ≤ j ∧ j < 12
    · rw [e2 j z.1 z.2]; exact F1.bg j
    · unfold mxG; rw [if_neg z]; exact F.bg j
  · by_cases z : 0 ≤ j ∧ j < 410
    · rw [e1 j z.1 z.2]; exact F1.bl j
    · unfold mxF; rw [if_neg z]; exact F.bl j
theorem KS.fr (h : KS σ b B t f g) (e : ∀ o, b ≤ o → o ≤ b + 17 → σ' o = σ o) : KS σ' b B t f g := by
  obtain ⟨S, F, V⟩ := h
  refine ⟨?_, F, V⟩
  unfold SR at S ⊢
  rw [e b (by omega) (by omega), e (b + 1) (by omega) (by omega), e (b + 2) (by omega) (by omega), e (b + 3) (by omega) (by omega), e (b + 4) (by omega) (by omega), e (b + 5) (by omega) (by omega), e (b + 6) (by omega) (by omega), e (b + 7) (by omega) (by omega), e (b + 8) (by omega) (by omega), e (b + 9) (by omega) (by omega), e (b + 10) (by omega) (by omega), e (b + 11) (by omega) (by omega), e (b + 12) (by omega) (by omega), e (b + 13) (by omega) (by omega), e (b + 14) (by omega) (by omega), e (b + 15) (by omega) (by omega), e (b + 16) (by omega) (by omega), e (b + 17) (by omega) (by omega)]
  exact S
theorem KS.mono {B' : Int} (h : KS σ b B t f g) (hB : B ≤ B') (h2 : B' ≤ 2000000000) : KS σ b B' t f g := ⟨h.1, h.2.1.mono hB h2, h.2.2⟩
theorem cps_at {a b sp dp n : Int} (h0 : dp ≤ j) (h1 : j < dp + n) : cps σ a sp b dp n b j = σ a (sp + (j - dp)) := by unfold cps; rw [if_pos ⟨rfl, h0, h1⟩]
theorem cps_no {a b sp dp n : Int} (h : y ≠ b ∨ j < dp ∨ dp + n ≤ j) : cps σ a sp b dp n y j = σ y j := by unfold cps; rw [if_neg (by omega)]
end ZX
