/-! THE REFERENCE'S FRAMES AND ALARMS. -/
section ZJ
variable {P : Shp} {σ σ' : St} {t f f' g : Int → Int} {B : Int} {d k p kind who m h j c x y : Int}
theorem floF_o (h : j ≠ 238 + 3 * k + 2) : floF t f k j = f j := by
  unfold floF
  repeat' split
  all_goals first | rfl | exact zu_n h
theorem floF_d (T : TV t) (F : FV B t f g) (h0 : 0 ≤ k) (h1 : k < t 2) : 0 ≤ floF t f k (238 + 3 * k + 2) ∧ floF t f k (238 + 3 * k + 2) < t (71 + 3 * k + 2) := by
  have ra := T.ra k h0 h1
  have pa := T.pa k h0 h1
  have dn := F.dn k h0 h1
  unfold floF
  split
  · rw [zu_s]; exact ⟨Int.emod_nonneg _ (by omega), Int.emod_lt_of_pos _ (by omega)⟩
  · split
    · rw [zu_s]; split <;> omega
    · exact dn
theorem bz_zu {i v a b : Int} (h : ∀ j, a ≤ f j ∧ f j ≤ b) (hv : a ≤ v ∧ v ≤ b) : ∀ j, a ≤ zu f i v j ∧ zu f i v j ≤ b := by
  intro j
  unfold zu
  split
  · exact hv
  · exact h j
theorem floG_in (T : TV t) (F : FV B t f g) (h0 : 0 ≤ k) (h1 : k < t 2) : 0 ≤ floG t f g k j ∧ floG t f g k j ≤ 10000 * B + 20000 := by
  have ra := T.ra k h0 h1
  have pa := T.pa k h0 h1
  have dn := F.dn k h0 h1
  have b1 := T.b (71 + 3 * k + 2)
  have di := div_in (x := f (238 + 3 * k + 2) + t (71 + 3 * k + 1)) (y := t (71 + 3 * k + 2)) (by omega) pa
  have g1 := F.bg j
  have g2 := F.bg k
  have w0 : ∀ j, 0 ≤ g j ∧ g j ≤ 10000 * B + 20000 := fun j => by have := F.bg j; omega
  unfold floG
  repeat' split
  all_goals first | exact w0 j | exact bz_zu w0 (by omega) j
theorem FV.flo (F : FV B t f g) (T : TV t) (h0 : 0 ≤ k) (h1 : k < t 2) (h4 : 10000 ≤ B) (hB : B < 1999999000) : FV (B + 2) t (floF t f k) (floG t f g k) := by
  have n1 := T.n1
  have n2 := T.n2
  have b0 := F.b0
  have fd := floF_d T F h0 h1
  have b1 := T.b (71 + 3 * k + 2)
  refine ⟨by omega, fun j => ?_, fun j => ?_, ?_, ?_, ?_, ?_, ?_, ?_, ?_, ?_, ?_⟩
  · by_cases e : j = 238 + 3 * k + 2
    · subst e; omega
    · rw [floF_o e]; have := F.bl j; omega
  · have := floG_in (j := j) T F h0 h1; omega
  · simp (disch := omega) only [floF_o]; exact F.tq
  · simp (disch := omega) only [floF_o]; exact F.ev
  · intro d d0 d1; have := F.al d d0 d1; simp (disch := omega) only [floF_o]; exact this
  · intro d d0 d1; have := F.un d d0 d1; simp (disch := omega) only [floF_o]; exact this
  · intro d d0 d1; have := F.si d d0 d1; simp (disch := omega) only [floF_o]; exact this
  · intro d d0 d1; have := F.mn d d0 d1; simp (disch := omega) only [floF_o]; exact this
  · intro d d0 d1; have := F.mo d d0 d1; simp (disch := omega) only [floF_o]; exact this
  · intro d d0 d1; have := F.ho d d0 d1; simp (disch := omega) only [floF_o]; exact this
  · intro d d0 d1; have := F.dn d d0 d1
    by_cases e : d = k
    · subst e; exact fd
    · simp (disch := omega) only [floF_o]; exact this
/-- a device becomes calm, or alarmed, or forgets: three of its numbers -/
theorem FV.dev {a b : Int} (F : FV B t f g) (T : TV t) (h0 : 0 ≤ d) (h1 : d < t 1) (ha : a = 0 ∨ a = 1) (hb : 0 ≤ b ∧ b ≤ B) (hp : a = 1 → f (14 + 28 * d + 0) ≠ -1) (h4 : 12 ≤ B) : FV B t (zu (zu f (14 + 28 * d + 1) a) (14 + 28 * d + 2) b) g ∧ FV B t (zu (zu f (14 + 28 * d + 1) 0) (14 + 28 * d + 3) 0) g := by
  have n1 := T.n1
  have n2 := T.n2
  have b0 := F.b0
  constructor
  · refine ⟨by omega, bl_zu (bl_zu F.bl (by omega)) (by omega), F.bg, ?_, ?_, ?_, ?_, ?_, ?_, ?_, ?_, ?_⟩
    · simp (disch := omega) only [zu_n]; exact F.tq
    · simp (disch := omega) only [zu_n]; exact F.ev
    · intro e e0 e1; have := F.al e e0 e1
      by_cases c : e = d
      · subst c; simp (disch := omega) only [zu_n, zu_s]; exact ha
      · simp (disch := omega) only [zu_n]; exact this
    · intro e e0 e1; have := F.un e e0 e1
      by_cases c : e = d
      · subst c; simp (disch := omega) only [zu_n, zu_s]; intro z; have := this z; rcases ha with r | r
        · exact ⟨r, this.2⟩
        · exact absurd z (hp r)
      · simp (disch := omega) only [zu_n]; exact this
    · intro e e0 e1; have := F.si e e0 e1
      by_cases c : e = d
      · subst c; simp (disch := omega) only [zu_n, zu_s]; omega
      · simp (disch := omega) only [zu_n]; exact this
    · intro e e0 e1; have := F.mn e e0 e1; simp (disch := omega) only [zu_n]; exact this
    · intro e e0 e1; have := F.mo e e0 e1; simp (disch := omega) only [zu_n]; exact this
    · intro e e0 e1; have := F.ho e e0 e1; simp (disch := omega) only [zu_n]; exact this
    · intro e e0 e1; have := F.dn e e0 e1; simp (disch := omega) only [zu_n]; exact this
  · refine ⟨by omega, bl_zu (bl_zu F.bl (by omega)) (by omega), F.bg, ?_, ?_, ?_, ?_, ?_, ?_, ?_, ?_, ?_⟩
    · simp (disch := omega) only [zu_n]; exact F.tq
    · simp (disch := omega) only [zu_n]; exact F.ev
    · intro e e0 e1; have := F.al e e0 e1
      by_cases c : e = d
      · subst c; simp (disch := omega) only [zu_n, zu_s, true_or]
      · simp (disch := omega) only [zu_n]; exact this
    · intro e e0 e1; have := F.un e e0 e1
      by_cases c : e = d
      · subst c; simp (disch := omega) only [zu_n, zu_s]; exact fun _ => ⟨trivial, trivial⟩
      · simp (disch := omega) only [zu_n]; exact this
    · intro e e0 e1; have := F.si e e0 e1; simp (disch := omega) only [zu_n]; exact this
    · intro e e0 e1; have := F.mn e e0 e1
      by_cases c : e = d
      · subst c; simp (disch := omega) only [zu_n, zu_s]; omega
      · simp (disch := omega) only [zu_n]; exact this
    · intro e e0 e1; have := F.mo e e0 e1; simp (disch := omega) only [zu_n]; exact this
    · intro e e0 e1; have := F.ho e e0 e1; simp (disch := omega) only [zu_n]; exact this
    · intro e e0 e1; have := F.dn e e0 e1; simp (disch := omega) only [zu_n]; exact this
theorem FV.cal (F : FV B t f g) (T : TV t) (h0 : 0 ≤ d) (h1 : d < t 1) (h4 : 12 ≤ B) (hB : B < 2000000000) : FV (B + 1) t (calF f d) g := by
  have n1 := T.n1
  exact (F.dev T h0 h1 (Or.inl rfl) ⟨Int.le_refl 0, by omega⟩ (fun h => by omega) h4).2.hap T hB (by omega) (by omega) (by omega) (by omega) h4
theorem FV.ala (F : FV B t f g) (T : TV t) (h0 : 0 ≤ d) (h1 : d < t 1) (hp : f (14 + 28 * d + 0) ≠ -1) (h4 : 12 ≤ B) (hB : B ≤ 1999999000) : FV (B + 25) t (alaF t f d) g := by
  have n1 := T.n1
  have F2 := (F.dev T h0 h1 (Or.inr rfl) ⟨F.tm, (F.bl 0).2⟩ (fun _ => hp) h4).1
  have F3 := F2.hap T (kind := 0) (who := d) (by omega) (by omega) (by omega) (by omega) (by omega) h4
  exact (F3.set T (by omega) (by omega)).mono (by omega) (by omega)
theorem FV.tick (F : FV B t f g) (T : TV t) (hB : B < 2000000000) (h4 : 12 ≤ B) : FV (B + 1) t (zu f 0 (f 0 + 1)) g := by
  have n1 := T.n1
  have n2 := T.n2
  have b0 := F.b0
  have q := F.bl 0
  have tm := F.tm
  refine ⟨by omega, bl_zu (fun j => by have := F.bl j; omega) (by omega), fun j => by have := F.bg j; omega, ?_, ?_, ?_, ?_, ?_, ?_, ?_, ?_, ?_⟩
  · have tq := F.tq; rw [zu_s, zu_n (by omega), zu_n (by omega)]; exact ⟨by omega, tq.2⟩
  · simp (disch := omega) only [zu_n]; exact F.ev
  · intro d d0 d1; have := F.al d d0 d1; simp (disch := omega) only [zu_n]; exact this
  · intro d d0 d1; have := F.un d d0 d1; simp (disch := omega) only [zu_n]; exact this
  · intro d d0 d1; have := F.si d d0 d1; simp (disch := omega) only [zu_n]; exact this
  · intro d d0 d1; have := F.mn d d0 d1; simp (disch := omega) only [zu_n]; exact this
  · intro d d0 d1; have := F.mo d d0 d1; simp (disch := omega) only [zu_n]; exact this
  · intro d d0 d1; have := F.ho d d0 d1; simp (disch := omega) only [zu_n]; exact this
  · intro d d0 d1; have := F.dn d d0 d1; simp (disch := omega) only [zu_n]; exact this
theorem FV.flw {q : (Int → Int) × (Int → Int)} (F : FV B t q.1 q.2) (T : TV t) (h4 : 10000 ≤ B) (hB : B < 1999998000) : FV (B + 24) t (flow1 t q).1 (flow1 t q).2 := by
  have n2 := T.n2
  have hN := T.n2N
  unfold flow1
  have G1 := forI_inv (F := fun k (q : (Int → Int) × (Int → Int)) => (floF t q.1 k, floG t q.1 q.2 k)) (N := (t 2).toNat) (a := q) (I := fun k a => FV (B + 2 * (k : Int)) t a.1 a.2) (fun k a hk G => by
      have := G.flo T (k := (k : Int)) (by omega) (by omega) (by omega) (by omega); rw [show B + 2 * ((k + 1 : Nat) : Int) = B + 2 * (k : Int) + 2 by push_cast; omega]; exact this) (F.mono (by push_cast; omega) (by push_cast; omega))
  exact G1.mono (by omega) (by omega)
theorem FV.clw (F : FV B t f g) (T : TV t) (h4 : 12 ≤ B) (hB : B < 1999999000) : FV (B + 8) t (cal1 t f) g := by
  have n1 := T.n1
  have hN := T.n1N
  unfold cal1
  have G1 := forI_inv (F := fun d a => if ovF t a d = true then calF a d else a) (N := (t 1).toNat) (a := f) (I := fun k a => FV (B + (k : Int)) t a g) (fun k a hk G => by
      split
      · have := G.cal T (d := (k : Int)) (by omega) (by omega) (by omega) (by omega); rw [show B + ((k + 1 : Nat) : Int) = B + (k : Int) + 1 by push_cast; omega]; exact this
      · exact G.mono (by push_cast; omega) (by push_cast; omega)) (F.mono (by push_cast; omega) (by push_cast; omega))
  exact G1.mono (by omega) (by omega)
theorem FV.frm {q : (Int → Int) × (Int → Int)} (F : FV B t q.1 q.2) (T : TV t) (h4 : 10000 ≤ B) (hB : B < 1999990000) : FV (B + 60) t (frmF t q).1 (frmF t q).2 := by
  unfold frmF
  have F1 := F.tick T (by omega) (by omega)
  have F2 := FV.flw (q := (zu q.1 0 (q.1 0 + 1), q.2)) F1 T (by omega) (by omega)
  have F3 := F2.clw T (by omega) (by omega)
  exact (F3.set T (by omega) (by omega)).mono (by omega) (by omega)
end ZJ
