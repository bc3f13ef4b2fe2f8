/-! THE REFERENCE SETTLES. -/
section ZE
variable {P : Shp} {σ : St} {t f g : Int → Int} {B : Int} {d k kind who m h j : Int}
theorem TV.n2N (T : TV t) : ((t 2).toNat : Int) = t 2 := by have := T.n2; omega
theorem TV.n1N (T : TV t) : ((t 1).toNat : Int) = t 1 := by have := T.n1; omega
theorem TV.n0N (T : TV t) : ((t 0).toNat : Int) = t 0 := by have := T.n0; omega
theorem hapF_o (h12 : 0 ≤ f 12) (h0 : 0 ≤ kind) (h1 : kind < 10) (h2 : j = 0 ∨ j = 1 ∨ 13 ≤ j) (h3 : j < 338) : hapF f kind who j = f j := by
  unfold hapF
  simp (disch := omega) only [zu_n]
theorem hapF_12 (h12 : 0 ≤ f 12) (h0 : 0 ≤ kind) (h1 : kind < 10) : hapF f kind who 12 = f 12 + 1 := by
  unfold hapF
  simp (disch := omega) only [zu_n, zu_s]
theorem hapF_t (h12 : 0 ≤ f 12) (h0 : 0 ≤ kind) (h1 : kind < 10) (h2 : j = 3 ∨ j = 4) (hj : 0 ≤ f j) : 0 ≤ hapF f kind who j := by
  unfold hapF
  by_cases e : j = 2 + kind
  · subst e; rw [zu_s]; omega
  · rw [zu_n e]; simp (disch := omega) only [zu_n]; exact hj
theorem FV.hap (F : FV B t f g) (T : TV t) (hB : B < 2000000000) (h0 : 0 ≤ kind) (h1 : kind < 10) (h2 : -1 ≤ who) (h3 : who ≤ 12) (h4 : 12 ≤ B) : FV (B + 1) t (hapF f kind who) g := by
  have e := F.ev
  have n1 := T.n1
  have n2 := T.n2
  have b0 := F.b0
  refine ⟨by omega, fun j => ?_, fun j => ?_, ?_, ?_, ?_, ?_, ?_, ?_, ?_, ?_, ?_⟩
  · unfold hapF zu
    have q1 := F.bl j
    have q2 := F.bl 0
    have q3 := F.bl 12
    have q4 := F.bl (2 + kind)
    repeat' split
    all_goals omega
  · have := F.bg j; omega
  · exact ⟨by rw [hapF_o e h0 h1 (Or.inl rfl) (by omega)]; exact F.tm, hapF_t e h0 h1 (Or.inl rfl) F.tq.2.1, hapF_t e h0 h1 (Or.inr rfl) F.tq.2.2⟩
  · rw [hapF_12 e h0 h1]; omega
  · intro d d0 d1; have := F.al d d0 d1; simp (disch := omega) only [hapF_o]; exact this
  · intro d d0 d1; have := F.un d d0 d1; simp (disch := omega) only [hapF_o]; exact this
  · intro d d0 d1; have := F.si d d0 d1; simp (disch := omega) only [hapF_o]; exact this
  · intro d d0 d1; have := F.mn d d0 d1; simp (disch := omega) only [hapF_o]; exact this
  · intro d d0 d1; have := F.mo d d0 d1; simp (disch := omega) only [hapF_o]; exact this
  · intro d d0 d1; have := F.ho d d0 d1; simp (disch := omega) only [hapF_o]; exact this
  · intro d d0 d1; have := F.dn d d0 d1; simp (disch := omega) only [hapF_o]; exact this
theorem FV.mono {B' : Int} (F : FV B t f g) (h : B ≤ B') (h2 : B' ≤ 2000000000) : FV B' t f g := by
  obtain ⟨a0, a1, a2, a⟩ := F
  exact ⟨by omega, fun j => by have := a1 j; omega, fun j => by have := a2 j; omega, a⟩
/-- a stream's state and holder change -/
theorem FV.bec (F : FV B t f g) (T : TV t) (h0 : 0 ≤ k) (h1 : k < t 2) (hm : (m = 0 ∧ h = -1) ∨ ((m = 1 ∨ m = 2) ∧ 0 ≤ h ∧ h < t 1)) (h4 : 12 ≤ B) : FV B t (becF f k m h) g := by
  have n1 := T.n1
  have n2 := T.n2
  have b0 := F.b0
  unfold becF
  refine ⟨by omega, fun j => ?_, F.bg, ?_, ?_, ?_, ?_, ?_, ?_, ?_, ?_, ?_⟩
  · unfold zu
    have q1 := F.bl j
    repeat' split
    all_goals omega
  · simp (disch := omega) only [zu_n]; exact F.tq
  · simp (disch := omega) only [zu_n]; exact F.ev
  · intro d d0 d1; have := F.al d d0 d1; simp (disch := omega) only [zu_n]; exact this
  · intro d d0 d1; have := F.un d d0 d1; simp (disch := omega) only [zu_n]; exact this
  · intro d d0 d1; have := F.si d d0 d1; simp (disch := omega) only [zu_n]; exact this
  · intro d d0 d1; have := F.mn d d0 d1; simp (disch := omega) only [zu_n]; exact this
  · intro d d0 d1; have := F.mo d d0 d1
    by_cases e : d = k
    · subst e; simp (disch := omega) only [zu_n, zu_s]; omega
    · simp (disch := omega) only [zu_n]; exact this
  · intro d d0 d1; have := F.ho d d0 d1
    by_cases e : d = k
    · subst e; simp (disch := omega) only [zu_n, zu_s]; omega
    · simp (disch := omega) only [zu_n]; exact this
  · intro d d0 d1; have := F.dn d d0 d1
    simp (disch := omega) only [zu_n]; exact this
theorem zu_zu {v w i : Int} : zu (zu f i v) i w = zu f i w := by
  funext j; unfold zu; split <;> rfl
/-- a held stream's state changes alone -/
theorem FV.mod (F : FV B t f g) (T : TV t) (h0 : 0 ≤ k) (h1 : k < t 2) (hh : f (238 + 3 * k) ≠ 0) (hm : m = 1 ∨ m = 2) (h4 : 12 ≤ B) : FV B t (zu f (238 + 3 * k) m) g := by
  have n1 := T.n1
  have n2 := T.n2
  have b0 := F.b0
  refine ⟨by omega, fun j => ?_, F.bg, ?_, ?_, ?_, ?_, ?_, ?_, ?_, ?_, ?_⟩
  · unfold zu
    have q1 := F.bl j
    repeat' split
    all_goals omega
  · simp (disch := omega) only [zu_n]; exact F.tq
  · simp (disch := omega) only [zu_n]; exact F.ev
  · intro d d0 d1; have := F.al d d0 d1; simp (disch := omega) only [zu_n]; exact this
  · intro d d0 d1; have := F.un d d0 d1; simp (disch := omega) only [zu_n]; exact this
  · intro d d0 d1; have := F.si d d0 d1; simp (disch := omega) only [zu_n]; exact this
  · intro d d0 d1; have := F.mn d d0 d1; simp (disch := omega) only [zu_n]; exact this
  · intro d d0 d1; have := F.mo d d0 d1
    by_cases e : d = k
    · subst e; simp (disch := omega) only [zu_n, zu_s]; omega
    · simp (disch := omega) only [zu_n]; exact this
  · intro d d0 d1; have := F.ho d d0 d1
    by_cases e : d = k
    · subst e; simp (disch := omega) only [zu_n, zu_s]; omega
    · simp (disch := omega) only [zu_n]; exact this
  · intro d d0 d1; have := F.dn d d0 d1
    simp (disch := omega) only [zu_n]; exact this
theorem wantF_in (T : TV t) (h0 : 0 ≤ k) (h1 : k < t 2) : wantF t f k = -1 ∨ (0 ≤ wantF t f k ∧ wantF t f k < t 1) := by
  have a1 := T.ho k h0 h1
  have a2 := T.he (t (71 + 3 * k)) a1.1 a1.2
  unfold wantF
  repeat' split
  all_goals omega
/-- what is wanted does not hang on streams and log -/
theorem wantF_c {f' : Int → Int} (T : TV t) (h0 : 0 ≤ k) (h1 : k < t 2) (h : ∀ d, 0 ≤ d → d < t 1 → f' (14 + 28 * d + 0) = f (14 + 28 * d + 0) ∧ f' (14 + 28 * d + 1) = f (14 + 28 * d + 1)) : wantF t f' k = wantF t f k := by
  have a1 := T.ho k h0 h1
  have a2 := T.he (t (71 + 3 * k)) a1.1 a1.2
  have b1 := h _ a1.1 a1.2
  unfold wantF gdF
  rw [b1.1, b1.2]
  by_cases e : t (63 + t (71 + 3 * k)) = -1
  · simp only [e, if_true]
  · have b2 := h _ (show 0 ≤ t (63 + t (71 + 3 * k)) by omega) a2.2
    rw [b2.1, b2.2]
end ZE
