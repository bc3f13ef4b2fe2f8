/-! WHAT THE CLASS'S NUMBERS KEEP: an invariant of every change. -/
section ZP1
variable {t f f' f2 a g : Int → Int} {B : Int} {d k p kind who m h j c x y i v w s : Int} {n : Nat}
theorem hapF_q (h12 : 0 ≤ f 12) (h0 : 0 ≤ kind) (h1 : kind < 10) (h2 : j ≠ 2 + kind) (h3 : j ≠ 12) (h4 : j < 338) : hapF f kind who j = f j := by
  unfold hapF
  simp (disch := omega) only [zu_n]
theorem hapF_kk (h12 : 0 ≤ f 12) (h0 : 0 ≤ kind) (h1 : kind < 10) : hapF f kind who (2 + kind) = f (2 + kind) + 1 := by
  unfold hapF
  rw [zu_s]
theorem sumI_eq {c c' : Int → Int} {N : Nat} (h : ∀ k : Int, 0 ≤ k → k < (N : Int) → c' k = c k) : forI (fun k a => a + c' k) N 0 = forI (fun k a => a + c k) N 0 :=
  forI_congr fun k a hk => by
    show a + c' (k : Int) = a + c (k : Int)
    rw [h k (by omega) (by omega)]
theorem sumI_le {c c' : Int → Int} : ∀ N : Nat, (∀ k : Int, 0 ≤ k → k < (N : Int) → c' k ≤ c k) → forI (fun k a => a + c' k) N 0 ≤ forI (fun k a => a + c k) N 0
  | 0, _ => Int.le_refl _
  | N + 1, h => by
    have i1 := sumI_le N fun k k0 k1 => h k k0 (by push_cast; omega)
    have i2 := h (N : Int) (by omega) (by push_cast; omega)
    show _ + _ ≤ _ + _
    omega
theorem sumI_add {b c : Int → Int} : ∀ N : Nat, forI (fun k a => a + (b k + c k)) N 0 = forI (fun k a => a + b k) N 0 + forI (fun k a => a + c k) N 0
  | 0 => rfl
  | N + 1 => by
    have i1 := sumI_add (b := b) (c := c) N
    show _ + _ = _ + _ + (_ + _)
    omega
theorem sumI_upd {q q' : Int → Int} {c : Int} (h2 : ∀ x, x ≠ c → q' x = q x) (h0 : 0 ≤ c) : ∀ n : Nat, forI (fun c a => a + q' c) n 0 = forI (fun c a => a + q c) n 0 + (if c < (n : Int) then q' c - q c else 0)
  | 0 => by show (0 : Int) = 0 + _; rw [if_neg (by push_cast; omega)]; rfl
  | n + 1 => by
    have i1 := sumI_upd (q := q) (q' := q') h2 h0 n
    show forI (fun c a => a + q' c) n 0 + q' (n : Int) = forI (fun c a => a + q c) n 0 + q (n : Int) + _
    rw [i1]
    by_cases e : (n : Int) = c
    · rw [e, if_neg (by omega), if_pos (by push_cast; omega)]; omega
    · rw [h2 _ e]
      by_cases e2 : c < (n : Int)
      · rw [if_pos e2, if_pos (by push_cast; omega)]; omega
      · rw [if_neg e2, if_neg (by push_cast; omega)]; omega
def rsv (t f : Int → Int) (k : Int) : Int := if f (238 + 3 * k) = 0 then 0 else t (71 + 3 * k + 1)
theorem resvF_s : resvF t f = forI (fun k a => a + rsv t f k) (t 2).toNat 0 := rfl
/-- the streams' side of what is kept: a held stream's holder is plugged in -/
def HV (t f : Int → Int) : Prop :=
  (0 ≤ f 12) ∧ (∀ k, 0 ≤ k → k < t 2 → f (238 + 3 * k) ≠ 0 → (0 ≤ f (238 + 3 * k + 1) ∧ f (238 + 3 * k + 1) < t 1 ∧ f (14 + 28 * f (238 + 3 * k + 1) + 0) ≠ -1))
def IV (t f : Int → Int) : Prop :=
  HV t f ∧ resvF t f ≤ t 3 ∧ (∀ d, 0 ≤ d → d < t 1 → f (14 + 28 * d + 0) = -1 ∨ f (14 + 28 * d + 0) = d)
/-- what settling does -/
def SK (t f f2 : Int → Int) (k : Int) : Prop :=
  f2 (238 + 3 * k) = 0 ∨ (f2 (238 + 3 * k + 1) = wantF t f k ∧ wantF t f k ≠ -1) ∨ (f (238 + 3 * k) ≠ 0 ∧ f2 (238 + 3 * k) = 2 ∧ f2 (238 + 3 * k + 1) = f (238 + 3 * k + 1) ∧ 0 < f (238 + 3 * k + 2))
def SO (t f f2 : Int → Int) : Prop :=
  (0 ≤ f2 12) ∧ (∀ j, j < 238 → j ≠ 6 → j ≠ 7 → j ≠ 8 → j ≠ 12 → f2 j = f j) ∧ (∀ k, 0 ≤ k → k < t 2 → f2 (238 + 3 * k + 2) = f (238 + 3 * k + 2))
theorem SO.want (S : SO t f f2) (T : TV t) (h0 : 0 ≤ k) (h1 : k < t 2) : wantF t f2 k = wantF t f k :=
  wantF_c T h0 h1 fun d d0 d1 => by
    have n1 := T.n1
    exact ⟨S.2.1 _ (by omega) (by omega) (by omega) (by omega) (by omega), S.2.1 _ (by omega) (by omega) (by omega) (by omega) (by omega)⟩
def SE (t f f2 : Int → Int) : Prop :=
  SO t f f2 ∧ (∀ k, 0 ≤ k → k < t 2 → SK t f f2 k) ∧ (resvF t f ≤ t 3 → resvF t f2 ≤ t 3)
/-- one cell outside of what is looked at, and a stream's state and holder -/
theorem SO.zm (S : SO t f f2) (T : TV t) (h0 : 0 ≤ k) (h1 : k < t 2) : SO t f (zu f2 (238 + 3 * k) m) := by
  have n2 := T.n2
  refine ⟨by rw [zu_n (by omega)]; exact S.1, fun j j0 j1 j2 j3 j4 => by rw [zu_n (by omega)]; exact S.2.1 j j0 j1 j2 j3 j4, fun q q0 q1 => by rw [zu_n (by omega)]; exact S.2.2 q q0 q1⟩
theorem SO.zh (S : SO t f f2) (T : TV t) (h0 : 0 ≤ k) (h1 : k < t 2) : SO t f (zu f2 (238 + 3 * k + 1) m) := by
  have n2 := T.n2
  refine ⟨by rw [zu_n (by omega)]; exact S.1, fun j j0 j1 j2 j3 j4 => by rw [zu_n (by omega)]; exact S.2.1 j j0 j1 j2 j3 j4, fun q q0 q1 => by rw [zu_n (by omega)]; exact S.2.2 q q0 q1⟩
theorem SO.hap (S : SO t f f2) (T : TV t) (h0 : 4 ≤ kind) (h1 : kind < 7) : SO t f (hapF f2 kind who) := by
  have n2 := T.n2
  refine ⟨by rw [hapF_12 S.1 (by omega) (by omega)]; have := S.1; omega, fun j j0 j1 j2 j3 j4 => by rw [hapF_q S.1 (by omega) (by omega) (by omega) j4 (by omega)]; exact S.2.1 j j0 j1 j2 j3 j4, fun q q0 q1 => by rw [hapF_q S.1 (by omega) (by omega) (by omega) (by omega) (by omega)]; exact S.2.2 q q0 q1⟩
theorem SO.rf (h : 0 ≤ f 12) : SO t f f := ⟨h, fun _ _ _ _ _ _ => rfl, fun _ _ _ => rfl⟩
theorem wk_ne (T : TV t) (h0 : 0 ≤ k) (h1 : k < t 2) (h : wantF t f k ≠ -1) : 0 ≤ wantF t f k ∧ wantF t f k < t 1 ∧ f (14 + 28 * wantF t f k + 0) ≠ -1 ∧ f (14 + 28 * wantF t f k + 1) ≠ 1 := by
  have w := wantF_in (f := f) T h0 h1
  have g : gdF f (wantF t f k) = true := by
    unfold wantF at h ⊢
    split
    · assumption
    · split
      · rename_i h1 h2; rw [if_neg h1, if_pos h2] at h; exact absurd rfl h
      · split
        · assumption
        · rename_i h1 h2 h3; rw [if_neg h1, if_neg h2, if_neg h3] at h; exact absurd rfl h
  have g2 := of_decide_eq_true g
  omega
/-- settling, the first loop's step on a held stream -/
theorem seH_s (T : TV t) (S : SO t f a) (h0 : 0 ≤ k) (h1 : k < t 2) (hh : a (238 + 3 * k) ≠ 0) (hn : a (238 + 3 * k + 1) ≠ -1) : SO t f (seHF t a k) ∧ (∀ q, 0 ≤ q → q < t 2 → q ≠ k → seHF t a k (238 + 3 * q) = a (238 + 3 * q) ∧ seHF t a k (238 + 3 * q + 1) = a (238 + 3 * q + 1)) ∧ (seHF t a k (238 + 3 * k) = 0 ∨ (seHF t a k (238 + 3 * k + 1) = wantF t f k ∧ wantF t f k ≠ -1) ∨ (seHF t a k (238 + 3 * k) = 2 ∧ seHF t a k (238 + 3 * k + 1) = a (238 + 3 * k + 1) ∧ 0 < a (238 + 3 * k + 2))) := by
  have n2 := T.n2
  have hw := S.want T h0 h1
  have S2 := S.zm (m := 2) T h0 h1
  unfold seHF
  rw [hw]
  by_cases c1 : a (238 + 3 * k + 1) = wantF t f k
  · rw [if_pos c1]
    refine ⟨S.zm T h0 h1, fun q q0 q1 q2 => ?_, Or.inr (Or.inl ⟨?_, by rw [← c1]; exact hn⟩)⟩
    · exact ⟨zu_n (by omega), zu_n (by omega)⟩
    · rw [zu_n (by omega)]; exact c1
  · rw [if_neg c1]
    by_cases c2 : a (238 + 3 * k + 2) ≤ 0
    · rw [if_pos c2]
      have S3 : SO t f (becF (zu a (238 + 3 * k) 2) k (if wantF t f k = -1 then 0 else 1) (wantF t f k)) := (S2.zm T h0 h1).zh T h0 h1
      have k1 : 4 ≤ (if wantF t f k = -1 then 5 else 4 : Int) ∧ (if wantF t f k = -1 then 5 else 4 : Int) < 7 := by split <;> omega
      refine ⟨S3.hap T k1.1 k1.2, fun q q0 q1 q2 => ?_, ?_⟩
      · rw [hapF_q S3.1 (by omega) (by omega) (by omega) (by omega) (by omega), hapF_q S3.1 (by omega) (by omega) (by omega) (by omega) (by omega)]
        unfold becF
        simp (disch := omega) only [zu_n, and_self]
      · rw [hapF_q S3.1 (by omega) (by omega) (by omega) (by omega) (by omega), hapF_q S3.1 (by omega) (by omega) (by omega) (by omega) (by omega)]
        unfold becF
        simp (disch := omega) only [zu_n, zu_s]
        by_cases c3 : wantF t f k = -1
        · exact Or.inl (if_pos c3)
        · exact Or.inr (Or.inl ⟨trivial, c3⟩)
    · rw [if_neg c2]
      refine ⟨S2, fun q q0 q1 q2 => ⟨zu_n (by omega), zu_n (by omega)⟩, Or.inr (Or.inr ⟨zu_s, zu_n (by omega), by omega⟩)⟩
theorem HV.hn (H : HV t f) : ∀ k, 0 ≤ k → k < t 2 → f (238 + 3 * k) ≠ 0 → f (238 + 3 * k + 1) ≠ -1 := fun k k0 k1 hk => by have := H.2 k k0 k1 hk; omega
theorem settle1 (T : TV t) (H : HV t f) : SO t f (se1F t f) ∧ (∀ k, 0 ≤ k → k < t 2 → SK t f (se1F t f) k) ∧ (∀ k, 0 ≤ k → k < t 2 → f (238 + 3 * k) = 0 → se1F t f (238 + 3 * k) = 0) := by
  have n2 := T.n2
  have hN := T.n2N
  unfold se1F
  have key := forI_inv (F := fun k a => if a (238 + 3 * k) = 0 then a else seHF t a k) (N := (t 2).toNat) (a := f)
    (I := fun n a => SO t f a ∧ (∀ k, 0 ≤ k → k < (n : Int) → k < t 2 → SK t f a k) ∧ (∀ k, 0 ≤ k → k < t 2 → f (238 + 3 * k) = 0 → a (238 + 3 * k) = 0) ∧ (∀ k, (n : Int) ≤ k → k < t 2 → a (238 + 3 * k) = f (238 + 3 * k) ∧ a (238 + 3 * k + 1) = f (238 + 3 * k + 1)))
    (fun n a hn hI => by
      obtain ⟨S, K, Z, R⟩ := hI
      have rn := R (n : Int) (by omega) (by omega)
      by_cases c : a (238 + 3 * (n : Int)) = 0
      · rw [if_pos c]
        refine ⟨S, fun k k0 k1 k2 => ?_, Z, fun k k0 k1 => R k (by push_cast at k0; omega) k1⟩
        by_cases e : k = (n : Int)
        · subst e; exact Or.inl c
        · exact K k k0 (by push_cast at k1; omega) k2
      · rw [if_neg c]
        have cf : f (238 + 3 * (n : Int)) ≠ 0 := by rw [← rn.1]; exact c
        obtain ⟨S2, O2, K2⟩ := seH_s (k := (n : Int)) T S (by omega) (by omega) c (by rw [rn.2]; exact H.hn _ (by omega) (by omega) cf)
        refine ⟨S2, fun k k0 k1 k2 => ?_, fun k k0 k1 kf => ?_, fun k k0 k1 => ?_⟩
        · by_cases e : k = (n : Int)
          · subst e
            rw [rn.2, S.2.2 _ k0 k2] at K2
            rcases K2 with q | q | q
            · exact Or.inl q
            · exact Or.inr (Or.inl q)
            · exact Or.inr (Or.inr ⟨cf, q⟩)
          · have := K k k0 (by push_cast at k1; omega) k2
            unfold SK at this ⊢
            rw [(O2 k k0 k2 e).1, (O2 k k0 k2 e).2]
            exact this
        · by_cases e : k = (n : Int)
          · subst e; exact absurd kf cf
          · rw [(O2 k k0 k1 e).1]; exact Z k k0 k1 kf
        · have e : k ≠ (n : Int) := by push_cast at k0; omega
          rw [(O2 k (by omega) k1 e).1, (O2 k (by omega) k1 e).2]
          exact R k (by push_cast at k0; omega) k1)
    ⟨SO.rf H.1, fun k k0 k1 => absurd k1 (by push_cast; omega), fun _ _ _ h => h, fun _ _ _ => ⟨rfl, rfl⟩⟩
  exact ⟨key.1, fun k k0 k1 => key.2.1 k k0 (by omega) k1, key.2.2.1⟩
theorem settle (T : TV t) (H : HV t f) : SE t f (setF t f) := by
  have n2 := T.n2
  have hN := T.n2N
  obtain ⟨S1, K1, Z1⟩ := settle1 T H
  have r1 : resvF t (se1F t f) ≤ resvF t f := by
    rw [resvF_s, resvF_s]
    refine sumI_le _ fun k k0 k1 => ?_
    unfold rsv
    have ra := T.ra k k0 (by omega)
    by_cases c : f (238 + 3 * k) = 0
    · rw [if_pos c, if_pos (Z1 k k0 (by omega) c)]; omega
    · rw [if_neg c]; split <;> omega
  unfold setF
  generalize se1F t f = f1 at S1 K1 Z1 r1
  have key := forI_inv (F := fun k a => seWF t a k) (N := (t 2).toNat) (a := f1)
    (I := fun _ a => SO t f a ∧ (∀ k, 0 ≤ k → k < t 2 → SK t f a k) ∧ (resvF t f ≤ t 3 → resvF t a ≤ t 3))
    (fun n a hn hI => by
      obtain ⟨S, K, R⟩ := hI
      have hw := S.want T (k := (n : Int)) (by omega) (by omega)
      unfold seWF
      by_cases c1 : a (238 + 3 * (n : Int)) = 0
      · rw [if_pos c1, hw]
        by_cases c2 : wantF t f (n : Int) = -1
        · rw [if_pos c2]; exact ⟨S, K, R⟩
        · rw [if_neg c2]
          by_cases c3 : t (71 + 3 * (n : Int) + 1) ≤ t 3 - resvF t a
          · rw [if_pos c3]
            have S3 : SO t f (becF a (n : Int) 1 (wantF t f (n : Int))) := (S.zm T (by omega) (by omega)).zh T (by omega) (by omega)
            have m1 : ∀ q, 0 ≤ q → q < t 2 → hapF (becF a (n : Int) 1 (wantF t f (n : Int))) 6 (n : Int) (238 + 3 * q) = becF a (n : Int) 1 (wantF t f (n : Int)) (238 + 3 * q) := fun q q0 q1 => hapF_q S3.1 (by omega) (by omega) (by omega) (by omega) (by omega)
            have m2 : ∀ q, 0 ≤ q → q < t 2 → hapF (becF a (n : Int) 1 (wantF t f (n : Int))) 6 (n : Int) (238 + 3 * q + 1) = becF a (n : Int) 1 (wantF t f (n : Int)) (238 + 3 * q + 1) := fun q q0 q1 => hapF_q S3.1 (by omega) (by omega) (by omega) (by omega) (by omega)
            refine ⟨S3.hap T (by omega) (by omega), fun k k0 k1 => ?_, fun hr => ?_⟩
            · by_cases e : k = (n : Int)
              · subst e
                refine Or.inr (Or.inl ⟨?_, c2⟩)
                rw [m2 _ k0 k1]
                exact zu_s
              · have := K k k0 k1
                unfold SK at this ⊢
                rw [m1 k k0 k1, m2 k k0 k1]
                unfold becF
                simp (disch := omega) only [zu_n]
                exact this
            · have := R hr
              rw [resvF_s] at this c3 ⊢
              have e1 : forI (fun k b => b + rsv t (hapF (becF a (n : Int) 1 (wantF t f (n : Int))) 6 (n : Int)) k) (t 2).toNat 0 = forI (fun k b => b + (if k = (n : Int) then t (71 + 3 * k + 1) else rsv t a k)) (t 2).toNat 0 := sumI_eq fun k k0 k1 => by
                unfold rsv
                rw [m1 k k0 (by omega)]
                by_cases e : k = (n : Int)
                · subst e
                  rw [if_pos rfl]
                  unfold becF
                  simp (disch := omega) only [zu_n, zu_s]
                  rfl
                · rw [if_neg e]
                  unfold becF
                  simp (disch := omega) only [zu_n]
              have e2 := sumI_upd (q := rsv t a) (q' := fun k => if k = (n : Int) then t (71 + 3 * k + 1) else rsv t a k) (c := (n : Int)) (fun x hx => if_neg hx) (by omega) (t 2).toNat
              have e3 : rsv t a (n : Int) = 0 := if_pos c1
              simp only [if_true] at e2
              rw [e1, e2, e3, if_pos (by omega)]
              omega
          · rw [if_neg c3]; exact ⟨S, K, R⟩
      · rw [if_neg c1]; exact ⟨S, K, R⟩)
    ⟨S1, K1, fun h => by omega⟩
  exact key
/-- what is kept does not hang on the rest -/
theorem HV.to (T : TV t) (H : HV t f) (h12 : 0 ≤ a 12) (hp : ∀ d, 0 ≤ d → d < t 1 → f (14 + 28 * d + 0) ≠ -1 → a (14 + 28 * d + 0) ≠ -1) (hm : ∀ k, 0 ≤ k → k < t 2 → a (238 + 3 * k) ≠ 0 → f (238 + 3 * k) ≠ 0 ∧ a (238 + 3 * k + 1) = f (238 + 3 * k + 1)) : HV t a := by
  refine ⟨h12, fun k k0 k1 hk => ?_⟩
  have q := hm k k0 k1 hk
  have r := H.2 k k0 k1 q.1
  rw [q.2]
  exact ⟨r.1, r.2.1, hp _ r.1 r.2.1 r.2.2⟩
theorem resvF_to (T : TV t) (hm : ∀ k, 0 ≤ k → k < t 2 → a (238 + 3 * k) ≠ 0 → f (238 + 3 * k) ≠ 0) : resvF t a ≤ resvF t f := by
  have n2 := T.n2
  have hN := T.n2N
  rw [resvF_s, resvF_s]
  refine sumI_le _ fun k k0 k1 => ?_
  unfold rsv
  have ra := T.ra k k0 (by omega)
  by_cases c : a (238 + 3 * k) = 0
  · rw [if_pos c]; split <;> omega
  · rw [if_neg c, if_neg (hm k k0 (by omega) c)]; omega
theorem IV.to (T : TV t) (H : IV t f) (h12 : 0 ≤ a 12) (hp : ∀ d, 0 ≤ d → d < t 1 → a (14 + 28 * d + 0) = f (14 + 28 * d + 0)) (hm : ∀ k, 0 ≤ k → k < t 2 → a (238 + 3 * k) ≠ 0 → f (238 + 3 * k) ≠ 0 ∧ a (238 + 3 * k + 1) = f (238 + 3 * k + 1)) : IV t a := by
  refine ⟨H.1.to T h12 (fun d d0 d1 => by rw [hp d d0 d1]; exact id) hm, ?_, fun d d0 d1 => by rw [hp d d0 d1]; exact H.2.2 d d0 d1⟩
  have := resvF_to T fun k k0 k1 hk => (hm k k0 k1 hk).1
  have := H.2.1
  omega
theorem IV.set (T : TV t) (H : IV t f) : IV t (setF t f) := by
  have n1 := T.n1
  obtain ⟨S, K, R⟩ := settle T H.1
  have po : ∀ d, 0 ≤ d → d < t 1 → setF t f (14 + 28 * d + 0) = f (14 + 28 * d + 0) := fun d d0 d1 => S.2.1 _ (by omega) (by omega) (by omega) (by omega) (by omega)
  refine ⟨⟨S.1, fun k k0 k1 hk => ?_⟩, R H.2.1, fun d d0 d1 => by rw [po d d0 d1]; exact H.2.2 d d0 d1⟩
  rcases K k k0 k1 with q | q | q
  · exact absurd q hk
  · have w := wk_ne T k0 k1 q.2
    rw [q.1, po _ w.1 w.2.1]
    exact ⟨w.1, w.2.1, w.2.2.1⟩
  · have w := H.1.2 k k0 k1 q.1
    rw [q.2.2.1, po _ w.1 w.2.1]
    exact w
end ZP1
