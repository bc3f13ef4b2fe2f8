/-! WHAT IS FORESEEN: a warned device holds nothing when the frames that were told have passed. -/
section ZP3
variable {t f f' f2 a b g : Int → Int} {B : Int} {d k p kind who m h j c x y i v w s z u : Int} {n : Nat}
/-- what begins tells of its plans -/
def PT (t : Int → Int) : Prop :=
  t 6 = 40 ∧ (∀ k, 0 ≤ k → k < t 2 → 2 ≤ t (71 + 3 * k + 1)) ∧ (∀ k, 0 ≤ k → k < t 2 → t (71 + 3 * k + 2) ≤ 60) ∧ t 2 ≤ 5 ∧ t 1 ≤ t 4 ∧ 3 ≤ t 1
def cl1 (t f : Int → Int) (k : Int) : Int := (t (71 + 3 * k + 2) - f (238 + 3 * k + 2) + t (71 + 3 * k + 1) - 1) / t (71 + 3 * k + 1)
theorem cl1_mul (h : 1 ≤ t (71 + 3 * k + 1)) (hm : cl1 t f k ≤ m) : t (71 + 3 * k + 2) - f (238 + 3 * k + 2) ≤ m * t (71 + 3 * k + 1) := by
  unfold cl1 at hm
  generalize t (71 + 3 * k + 2) - f (238 + 3 * k + 2) = x at hm ⊢
  generalize t (71 + 3 * k + 1) = r at h hm ⊢
  have h1 := Int.lt_ediv_add_one_mul_self (x + r - 1) (show 0 < r by omega)
  have h2 : ((x + r - 1) / r + 1) * r ≤ (m + 1) * r := Int.mul_le_mul_of_nonneg_right (by omega) (by omega)
  rw [Int.add_mul m 1 r, Int.one_mul] at h2
  omega
theorem cl1_le (P : PT t) (h0 : 0 ≤ k) (h1 : k < t 2) (hd : 0 < f (238 + 3 * k + 2)) : cl1 t f k ≤ 30 := by
  have r := P.2.1 k h0 h1
  have q := P.2.2.1 k h0 h1
  unfold cl1
  have := Int.ediv_lt_of_lt_mul (a := t (71 + 3 * k + 2) - f (238 + 3 * k + 2) + t (71 + 3 * k + 1) - 1) (b := 31) (c := t (71 + 3 * k + 1)) (by omega) (by omega)
  omega
theorem clF_max (T : TV t) : ∀ k, 0 ≤ k → k < t 2 → hdF f k d = true → f (238 + 3 * k + 2) ≠ 0 → cl1 t f k ≤ clF t f d := by
  have hN := T.n2N
  have key := forI_inv (F := fun k a => if hdF f k d = true then (if f (238 + 3 * k + 2) = 0 then a else if cl1 t f k ≤ a then a else cl1 t f k) else a) (N := (t 2).toNat) (a := 0)
    (I := fun n a => ∀ k, 0 ≤ k → k < (n : Int) → hdF f k d = true → f (238 + 3 * k + 2) ≠ 0 → cl1 t f k ≤ a)
    (fun n a hn hI k k0 k1 hk hz => by
      by_cases e : k = (n : Int)
      · subst e
        simp only [hk, hz, if_true, if_false]
        split <;> omega
      · have := hI k k0 (by push_cast at k1; omega) hk hz
        repeat' split
        all_goals omega)
    (fun k k0 k1 => absurd k1 (by push_cast; omega))
  exact fun k k0 k1 => key k k0 (by omega)
theorem clF_in (T : TV t) (P : PT t) (hd : ∀ k, 0 ≤ k → k < t 2 → 0 ≤ f (238 + 3 * k + 2)) : 0 ≤ clF t f d ∧ clF t f d ≤ 30 := by
  have hN := T.n2N
  exact forI_inv (F := fun k a => if hdF f k d = true then (if f (238 + 3 * k + 2) = 0 then a else if cl1 t f k ≤ a then a else cl1 t f k) else a) (N := (t 2).toNat) (a := 0)
    (I := fun _ a => 0 ≤ a ∧ a ≤ 30)
    (fun n a hn hI => by
      by_cases z : f (238 + 3 * (n : Int) + 2) = 0
      · simp only [z, if_true]; split <;> exact hI
      · have q := hd (n : Int) (by omega) (by omega)
        have c := cl1_le (f := f) P (k := (n : Int)) (by omega) (by omega) (by omega)
        simp only [z, if_false]
        repeat' split
        all_goals omega)
    ⟨by omega, by omega⟩
/-- n frames after the warning -/
def QF (t : Int → Int) (d s due : Int) (n : Int) (a : Int → Int) : Prop :=
  HV t a ∧ a (14 + 28 * d + 0) ≠ -1 ∧ a (14 + 28 * d + 1) = 1 ∧ a (14 + 28 * d + 2) = s ∧ a 0 = s + n ∧ (∀ k, 0 ≤ k → k < t 2 → a (238 + 3 * k) ≠ 0 → a (238 + 3 * k + 1) = d → a (238 + 3 * k) = 2 ∧ 0 < a (238 + 3 * k + 2) ∧ t (71 + 3 * k + 2) - a (238 + 3 * k + 2) ≤ (due - n) * t (71 + 3 * k + 1))
/-- settling while d is in alarm -/
theorem QF.set {due : Int} (T : TV t) (H : HV t a) (h0 : 0 ≤ d) (h1 : d < t 1) (hp : a (14 + 28 * d + 0) ≠ -1) (ha : a (14 + 28 * d + 1) = 1) (hs : a (14 + 28 * d + 2) = s) (hm : a 0 = s + m) (hk : ∀ k, 0 ≤ k → k < t 2 → a (238 + 3 * k) ≠ 0 → a (238 + 3 * k + 1) = d → 0 < a (238 + 3 * k + 2) → t (71 + 3 * k + 2) - a (238 + 3 * k + 2) ≤ (due - m) * t (71 + 3 * k + 1)) : QF t d s due m (setF t a) := by
  have n1 := T.n1
  obtain ⟨⟨S0, S1, S2⟩, K, _⟩ := settle T H
  have o : ∀ j, 0 ≤ j → j < 4 → setF t a (14 + 28 * d + j) = a (14 + 28 * d + j) := fun j j0 j1 => S1 _ (by omega) (by omega) (by omega) (by omega) (by omega)
  have HS : HV t (setF t a) := by
    refine ⟨S0, fun k k0 k1 q => ?_⟩
    rcases K k k0 k1 with z | z | z
    · exact absurd z q
    · have w := wk_ne T k0 k1 z.2
      rw [z.1, S1 _ (by omega) (by omega) (by omega) (by omega) (by omega)]
      exact ⟨w.1, w.2.1, w.2.2.1⟩
    · have w := H.2 k k0 k1 z.1
      rw [z.2.2.1, S1 _ (by omega) (by omega) (by omega) (by omega) (by omega)]
      exact w
  refine ⟨HS, by rw [o 0 (by omega) (by omega)]; exact hp, by rw [o 1 (by omega) (by omega)]; exact ha, by rw [o 2 (by omega) (by omega)]; exact hs, by rw [S1 0 (by omega) (by omega) (by omega) (by omega) (by omega)]; exact hm, fun k k0 k1 q r => ?_⟩
  rcases K k k0 k1 with z | z | z
  · exact absurd z q
  · have w := wk_ne T k0 k1 z.2
    rw [z.1] at r
    rw [r] at w
    exact absurd ha w.2.2.2
  · refine ⟨z.2.1, by rw [S2 k k0 k1]; exact z.2.2.2, ?_⟩
    rw [S2 k k0 k1]
    exact hk k k0 k1 z.1 (by rw [← z.2.2.1]; exact r) z.2.2.2
theorem QF.step {due : Int} (T : TV t) (P : PT t) (Q : QF t d s due m a) (h0 : 0 ≤ d) (h1 : d < t 1) (m0 : 0 ≤ m) (m1 : m < due) (hdue : due ≤ 30) : QF t d s due (m + 1) (frmF t (a, g)).1 := by
  have n1 := T.n1
  have n2 := T.n2
  obtain ⟨H, qp, qa, qs, qm, qk⟩ := Q
  obtain ⟨E, O, O0, OD, OA⟩ := fr0_o T H.1
  rw [frm_eq]
  have e1 : ∀ k, 0 ≤ k → k < t 2 → fr0 t a (238 + 3 * k) = a (238 + 3 * k) := fun k k0 k1 => O _ (by omega) (by omega) (by omega) (by omega) (fun e e0 e1 => by omega) (fun e e0 e1 => by omega)
  have e2 : ∀ k, 0 ≤ k → k < t 2 → fr0 t a (238 + 3 * k + 1) = a (238 + 3 * k + 1) := fun k k0 k1 => O _ (by omega) (by omega) (by omega) (by omega) (fun e e0 e1 => by omega) (fun e e0 e1 => by omega)
  have e3 : ∀ e, 0 ≤ e → e < t 1 → fr0 t a (14 + 28 * e + 0) = a (14 + 28 * e + 0) := fun e e0 e1 => O _ (by omega) (by omega) (by omega) (by omega) (fun e e0 e1 => by omega) (fun e e0 e1 => by omega)
  refine QF.set T ?_ h0 h1 (by rw [e3 d h0 h1]; exact qp) ?_ ?_ ?_ fun k k0 k1 hk hd hz => ?_
  · exact H.to T E (fun e e0 e1 q => by rw [e3 e e0 e1]; exact q) fun k k0 k1 q => ⟨by rw [← e1 k k0 k1]; exact q, e2 k k0 k1⟩
  · rw [OA d h0 h1 (by rw [qs, qm, P.1]; omega)]; exact qa
  · rw [O _ (by omega) (by omega) (by omega) (by omega) (fun e e0 e1 => by omega) (fun e e0 e1 => by omega)]; exact qs
  · rw [O0, qm]; omega
  · rw [e1 k k0 k1] at hk
    rw [e2 k k0 k1] at hd
    rw [OD k k0 k1] at hz ⊢
    obtain ⟨w1, w2, w3⟩ := qk k k0 k1 hk hd
    unfold floF at hz ⊢
    rw [if_neg (by omega), if_pos w1, zu_s] at hz ⊢
    rw [show due - (m + 1) = (due - m) - 1 by omega, Int.sub_mul, Int.one_mul]
    by_cases c : a (238 + 3 * k + 2) + t (71 + 3 * k + 1) < t (71 + 3 * k + 2)
    · rw [if_pos c]; omega
    · rw [if_neg c] at hz; omega
/-- the warning itself -/
theorem QF.warn (T : TV t) (H : IV t f) (h0 : 0 ≤ d) (h1 : d < t 1) (hp : f (14 + 28 * d + 0) ≠ -1) (hd : ∀ k, 0 ≤ k → k < t 2 → 0 ≤ f (238 + 3 * k + 2)) : QF t d (f 0) (clF t f d) 0 (alaF t f d) := by
  have n1 := T.n1
  have n2 := T.n2
  unfold alaF
  have z12 : 0 ≤ zu (zu f (14 + 28 * d + 1) 1) (14 + 28 * d + 2) (f 0) 12 := by rw [zu_n (by omega), zu_n (by omega)]; exact H.1.1
  have e : ∀ j, 3 ≤ j → j < 338 → j ≠ 12 → j ≠ 14 + 28 * d + 1 → j ≠ 14 + 28 * d + 2 → hapF (zu (zu f (14 + 28 * d + 1) 1) (14 + 28 * d + 2) (f 0)) 0 d j = f j := fun j j0 j1 j2 j3 j4 => by
    rw [hapF_q z12 (by omega) (by omega) (by omega) j2 j1, zu_n j4, zu_n j3]
  refine QF.set T ?_ h0 h1 (by rw [e _ (by omega) (by omega) (by omega) (by omega) (by omega)]; exact hp) ?_ ?_ ?_ fun k k0 k1 q r z => ?_
  · refine H.1.to T (by rw [hapF_12 z12 (by omega) (by omega)]; omega) (fun x x0 x1 q => by rw [e _ (by omega) (by omega) (by omega) (by omega) (by omega)]; exact q) fun k k0 k1 q => ?_
    rw [e _ (by omega) (by omega) (by omega) (by omega) (by omega)] at q
    exact ⟨q, e _ (by omega) (by omega) (by omega) (by omega) (by omega)⟩
  · rw [hapF_q z12 (by omega) (by omega) (by omega) (by omega) (by omega), zu_n (by omega), zu_s]
  · rw [hapF_q z12 (by omega) (by omega) (by omega) (by omega) (by omega), zu_s]
  · rw [hapF_q z12 (by omega) (by omega) (by omega) (by omega) (by omega), zu_n (by omega), zu_n (by omega)]; omega
  · rw [e _ (by omega) (by omega) (by omega) (by omega) (by omega)] at q r z ⊢
    rw [Int.sub_zero]
    have r1 := T.ra k k0 k1
    exact cl1_mul r1.1 (clF_max T k k0 k1 (decide_eq_true ⟨q, r⟩) (by omega))
theorem QF.frs {due : Int} (T : TV t) (P : PT t) (Q : QF t d s due 0 a) (h0 : 0 ≤ d) (h1 : d < t 1) (hdue : due ≤ 30) : ∀ n : Nat, (n : Int) ≤ due → QF t d s due (n : Int) (frsF t n (a, g)).1
  | 0, _ => Q
  | n + 1, hn => by
    have h := QF.frs T P Q h0 h1 hdue n (by push_cast at hn; omega)
    rw [frs_s]
    exact QF.step (a := (frsF t n (a, g)).1) (g := (frsF t n (a, g)).2) T P h h0 h1 (by omega) (by push_cast at hn; omega) hdue
/-- then nothing is held -/
theorem QF.none {due : Int} (T : TV t) (Q : QF t d s due due a) (hdn : ∀ k, 0 ≤ k → k < t 2 → a (238 + 3 * k + 2) < t (71 + 3 * k + 2)) : ∀ k, 0 ≤ k → k < t 2 → hdF a k d = false := by
  intro k k0 k1
  cases c : hdF a k d with
  | false => rfl
  | true =>
    have c2 := of_decide_eq_true c
    obtain ⟨_, w2, w3⟩ := Q.2.2.2.2.2 k k0 k1 c2.1 c2.2
    rw [Int.sub_self, Int.zero_mul] at w3
    have := hdn k k0 k1
    omega
theorem stF_0 (T : TV t) (h : ∀ k, 0 ≤ k → k < t 2 → hdF a k d = false) : stF t a d = 0 := by
  have hN := T.n2N
  unfold stF
  exact forI_inv (F := fun k b => b + (if hdF a k d = true then a (238 + 3 * k + 2) else 0)) (N := (t 2).toNat) (a := 0) (I := fun _ b => b = 0) (fun n b hn hb => by
    subst hb
    simp only [h (n : Int) (by omega) (by omega), Bool.false_eq_true, if_false]
    rfl) rfl
theorem hbF_0 (T : TV t) (h : ∀ k, 0 ≤ k → k < t 2 → hdF a k d = false) : hbF t a d = 0 := by
  have hN := T.n2N
  unfold hbF
  exact forI_inv (F := fun k b => ior b (if hdF a k d = true then ishl 1 k else 0)) (N := (t 2).toNat) (a := 0) (I := fun _ b => b = 0) (fun n b hn hb => by
    subst hb
    simp only [h (n : Int) (by omega) (by omega), Bool.false_eq_true, if_false]
    rfl) rfl
/-- the total of plugs that were foreseen stands still -/
theorem ala_4 (T : TV t) (H : IV t f) (h0 : 0 ≤ d) (h1 : d < t 1) : alaF t f d 4 = f 4 := by
  have n1 := T.n1
  have n2 := T.n2
  unfold alaF
  have z12 : 0 ≤ zu (zu f (14 + 28 * d + 1) 1) (14 + 28 * d + 2) (f 0) 12 := by rw [zu_n (by omega), zu_n (by omega)]; exact H.1.1
  have HH : HV t (hapF (zu (zu f (14 + 28 * d + 1) 1) (14 + 28 * d + 2) (f 0)) 0 d) := (H.hapz T z12 (fun j _ hj hd => by have q := hd d h0 h1; rw [zu_n q.2.1, zu_n q.1]) (by omega) (by omega)).1
  obtain ⟨⟨S0, S1, S2⟩, _, _⟩ := settle T HH
  rw [S1 4 (by omega) (by omega) (by omega) (by omega) (by omega), hapF_q z12 (by omega) (by omega) (by omega) (by omega) (by omega), zu_n (by omega), zu_n (by omega)]
theorem frm_4 (T : TV t) (H : IV t f) : (frmF t (f, g)).1 4 = f 4 := by
  have n1 := T.n1
  have n2 := T.n2
  obtain ⟨E, O, O0, OD, OA⟩ := fr0_o T H.1.1
  obtain ⟨⟨S0, S1, S2⟩, _, _⟩ := settle T (H.fr0 T).1
  rw [frm_eq, S1 4 (by omega) (by omega) (by omega) (by omega) (by omega), O 4 (by omega) (by omega) (by omega) (by omega) (fun e e0 e1 => by omega) (fun e e0 e1 => by omega)]
theorem frs_4 (T : TV t) (H : IV t f) : ∀ n, (frsF t n (f, g)).1 4 = f 4
  | 0 => rfl
  | n + 1 => by
    have h := frs_4 T H n
    rw [frs_s, ← h]
    exact frm_4 (f := (frsF t n (f, g)).1) (g := (frsF t n (f, g)).2) T (H.frs T n)
end ZP3
