/-! WHAT EACH CHANGE KEEPS. -/
section ZP2
variable {t f f' f2 a b g : Int → Int} {B : Int} {d k p kind who m h j c x y i v w s z : Int} {n : Nat}
theorem flow_fst : ∀ (n : Nat) (q : (Int → Int) × (Int → Int)), (forI (fun k q => (floF t q.1 k, floG t q.1 q.2 k)) n q).1 = forI (fun k a => floF t a k) n q.1
  | 0, _ => rfl
  | n + 1, q => by
    show floF t (forI _ n q).1 _ = floF t (forI _ n q.1) _
    rw [flow_fst n q]
theorem flo_loop (T : TV t) : (∀ j, (∀ k, 0 ≤ k → k < t 2 → j ≠ 238 + 3 * k + 2) → forI (fun k a => floF t a k) (t 2).toNat f j = f j) ∧ (∀ k, 0 ≤ k → k < t 2 → forI (fun k a => floF t a k) (t 2).toNat f (238 + 3 * k + 2) = floF t f k (238 + 3 * k + 2)) := by
  have n2 := T.n2
  have hN := T.n2N
  have key := forI_inv (F := fun k a => floF t a k) (N := (t 2).toNat) (a := f)
    (I := fun n a => (∀ j, (∀ k, 0 ≤ k → k < (n : Int) → j ≠ 238 + 3 * k + 2) → a j = f j) ∧ (∀ k, 0 ≤ k → k < (n : Int) → a (238 + 3 * k + 2) = floF t f k (238 + 3 * k + 2)))
    (fun n a hn hI => by
      obtain ⟨O, K⟩ := hI
      refine ⟨fun j hj => ?_, fun k k0 k1 => ?_⟩
      · rw [floF_o (hj (n : Int) (by omega) (by push_cast; omega))]
        exact O j fun k k0 k1 => hj k k0 (by push_cast; omega)
      · by_cases e : k = (n : Int)
        · subst e
          have o1 := O (238 + 3 * (n : Int)) fun k k0 k1 => by omega
          have o2 := O (238 + 3 * (n : Int) + 2) fun k k0 k1 => by omega
          unfold floF
          rw [o1, o2]
          by_cases c1 : f (238 + 3 * (n : Int)) = 1
          · rw [if_pos c1, if_pos c1, zu_s, zu_s]
          · rw [if_neg c1, if_neg c1]
            by_cases c2 : f (238 + 3 * (n : Int)) = 2
            · rw [if_pos c2, if_pos c2, zu_s, zu_s]
            · rw [if_neg c2, if_neg c2, o2]
        · rw [floF_o (by omega)]
          exact K k k0 (by push_cast at k1; omega))
    ⟨fun j _ => rfl, fun k k0 k1 => absurd k1 (by push_cast; omega)⟩
  exact ⟨fun j hj => key.1 j fun k k0 k1 => hj k k0 (by omega), fun k k0 k1 => key.2 k k0 (by omega)⟩
/-- alarms that end by themselves -/
theorem cal_loop (T : TV t) (h12 : 0 ≤ f 12) : (0 ≤ cal1 t f 12) ∧ (∀ j, j < 338 → j ≠ 3 → j ≠ 12 → (∀ d, 0 ≤ d → d < t 1 → j ≠ 14 + 28 * d + 1 ∧ j ≠ 14 + 28 * d + 3) → cal1 t f j = f j) ∧ (∀ d, 0 ≤ d → d < t 1 → f 0 - f (14 + 28 * d + 2) < t 6 → cal1 t f (14 + 28 * d + 1) = f (14 + 28 * d + 1)) := by
  have n1 := T.n1
  have hN := T.n1N
  unfold cal1
  exact forI_inv (F := fun d a => if ovF t a d = true then calF a d else a) (N := (t 1).toNat) (a := f)
    (I := fun n a => (0 ≤ a 12) ∧ (∀ j, j < 338 → j ≠ 3 → j ≠ 12 → (∀ d, 0 ≤ d → d < t 1 → j ≠ 14 + 28 * d + 1 ∧ j ≠ 14 + 28 * d + 3) → a j = f j) ∧ (∀ d, 0 ≤ d → d < t 1 → f 0 - f (14 + 28 * d + 2) < t 6 → a (14 + 28 * d + 1) = f (14 + 28 * d + 1)))
    (fun n a hn hI => by
      obtain ⟨E, O, K⟩ := hI
      by_cases c : ovF t a (n : Int) = true
      · rw [if_pos c]
        have c2 := of_decide_eq_true c
        have z12 : 0 ≤ zu (zu a (14 + 28 * (n : Int) + 1) 0) (14 + 28 * (n : Int) + 3) 0 12 := by rw [zu_n (by omega), zu_n (by omega)]; exact E
        unfold calF
        refine ⟨by rw [hapF_12 z12 (by omega) (by omega)]; omega, fun j j0 j1 j2 j3 => ?_, fun d d0 d1 d2 => ?_⟩
        · have q := j3 (n : Int) (by omega) (by omega)
          rw [hapF_q z12 (by omega) (by omega) (by omega) j2 j0, zu_n q.2, zu_n q.1]
          exact O j j0 j1 j2 j3
        · have e0 := O 0 (by omega) (by omega) (by omega) fun e e0 e1 => by omega
          by_cases e : d = (n : Int)
          · subst e
            have es := O (14 + 28 * (n : Int) + 2) (by omega) (by omega) (by omega) fun e e0 e1 => by omega
            rw [e0, es] at c2
            omega
          · rw [hapF_q z12 (by omega) (by omega) (by omega) (by omega) (by omega), zu_n (by omega), zu_n (by omega)]
            exact K d d0 d1 d2
      · rw [if_neg c]; exact ⟨E, O, K⟩)
    ⟨h12, fun _ _ _ _ _ => rfl, fun _ _ _ _ => rfl⟩
/-- what one frame makes before it settles -/
def fr0 (t f : Int → Int) : Int → Int := cal1 t (forI (fun k a => floF t a k) (t 2).toNat (zu f 0 (f 0 + 1)))
theorem frm_eq : (frmF t (f, g)).1 = setF t (fr0 t f) := by
  show setF t (cal1 t (flow1 t (zu f 0 (f 0 + 1), g)).1) = _
  unfold flow1
  rw [flow_fst]
  rfl
theorem fr0_o (T : TV t) (h12 : 0 ≤ f 12) : (0 ≤ fr0 t f 12) ∧ (∀ j, j < 338 → j ≠ 0 → j ≠ 3 → j ≠ 12 → (∀ d, 0 ≤ d → d < t 1 → j ≠ 14 + 28 * d + 1 ∧ j ≠ 14 + 28 * d + 3) → (∀ k, 0 ≤ k → k < t 2 → j ≠ 238 + 3 * k + 2) → fr0 t f j = f j) ∧ (fr0 t f 0 = f 0 + 1) ∧ (∀ k, 0 ≤ k → k < t 2 → fr0 t f (238 + 3 * k + 2) = floF t f k (238 + 3 * k + 2)) ∧ (∀ d, 0 ≤ d → d < t 1 → f 0 + 1 - f (14 + 28 * d + 2) < t 6 → fr0 t f (14 + 28 * d + 1) = f (14 + 28 * d + 1)) := by
  have n1 := T.n1
  have n2 := T.n2
  obtain ⟨O, K⟩ := flo_loop (f := zu f 0 (f 0 + 1)) T
  have o12 : forI (fun k a => floF t a k) (t 2).toNat (zu f 0 (f 0 + 1)) 12 = f 12 := by rw [O 12 (fun k k0 k1 => by omega), zu_n (by omega)]
  obtain ⟨E2, O2, K2⟩ := cal_loop (f := forI (fun k a => floF t a k) (t 2).toNat (zu f 0 (f 0 + 1))) T (by rw [o12]; exact h12)
  have o0 : forI (fun k a => floF t a k) (t 2).toNat (zu f 0 (f 0 + 1)) 0 = f 0 + 1 := by rw [O 0 (fun k k0 k1 => by omega), zu_s]
  unfold fr0
  refine ⟨E2, fun j j0 j1 j2 j3 j4 j5 => ?_, ?_, fun k k0 k1 => ?_, fun d d0 d1 d2 => ?_⟩
  · rw [O2 j j0 j2 j3 j4, O j j5, zu_n j1]
  · rw [O2 0 (by omega) (by omega) (by omega) (fun d d0 d1 => by omega), o0]
  · rw [O2 _ (by omega) (by omega) (by omega) (fun d d0 d1 => by omega), K k k0 k1]
    unfold floF
    simp (disch := omega) only [zu_n]
    by_cases c1 : f (238 + 3 * k) = 1
    · simp only [if_pos c1, zu_s]
    · simp only [if_neg c1]
      by_cases c2 : f (238 + 3 * k) = 2
      · simp only [if_pos c2, zu_s]
      · simp only [if_neg c2]
        rw [zu_n (by omega)]
  · rw [K2 d d0 d1 (by rw [o0, O _ (fun k k0 k1 => by omega), zu_n (by omega)]; exact d2), O _ (fun k k0 k1 => by omega), zu_n (by omega)]
theorem IV.fr0 (T : TV t) (H : IV t f) : IV t (fr0 t f) := by
  have n1 := T.n1
  have n2 := T.n2
  obtain ⟨E, O, _, _, _⟩ := fr0_o T H.1.1
  refine H.to T E (fun d d0 d1 => O _ (by omega) (by omega) (by omega) (by omega) (fun e e0 e1 => by omega) (fun e e0 e1 => by omega)) fun k k0 k1 hk => ?_
  rw [O (238 + 3 * k) (by omega) (by omega) (by omega) (by omega) (fun e e0 e1 => by omega) (fun e e0 e1 => by omega)] at hk
  exact ⟨hk, O _ (by omega) (by omega) (by omega) (by omega) (fun e e0 e1 => by omega) (fun e e0 e1 => by omega)⟩
theorem IV.frm (T : TV t) (H : IV t f) : IV t (frmF t (f, g)).1 := by
  rw [frm_eq]
  exact (H.fr0 T).set T
theorem frs_s : frsF t (n + 1) (f, g) = frmF t (frsF t n (f, g)) := rfl
theorem IV.frs (T : TV t) (H : IV t f) : ∀ n, IV t (frsF t n (f, g)).1
  | 0 => H
  | n + 1 => by
    have h := IV.frs T H n
    rw [frs_s]
    exact IV.frm (f := (frsF t n (f, g)).1) (g := (frsF t n (f, g)).2) T h
/-- cells that an alarm's event changes -/
theorem IV.hapz (T : TV t) (H : IV t f) (h12 : 0 ≤ a 12) (ha : ∀ j, (∀ d, 0 ≤ d → d < t 1 → j = 14 + 28 * d + 0 ∨ (238 ≤ j ∧ j < 274) → True) → (j < 338 ∧ 14 ≤ j) → (∀ d, 0 ≤ d → d < t 1 → j ≠ 14 + 28 * d + 1 ∧ j ≠ 14 + 28 * d + 2 ∧ j ≠ 14 + 28 * d + 3) → a j = f j) (k0 : 0 ≤ kind) (k1 : kind < 10) : IV t (hapF a kind who) := by
  have n1 := T.n1
  have n2 := T.n2
  refine H.to T (by rw [hapF_12 h12 k0 k1]; omega) (fun d d0 d1 => ?_) fun k q0 q1 hk => ?_
  · rw [hapF_q h12 k0 k1 (by omega) (by omega) (by omega)]
    exact ha _ (fun _ _ _ _ => trivial) (by omega) fun e e0 e1 => by omega
  · rw [hapF_q h12 k0 k1 (by omega) (by omega) (by omega), ha _ (fun _ _ _ _ => trivial) (by omega) fun e e0 e1 => by omega] at hk
    rw [hapF_q h12 k0 k1 (by omega) (by omega) (by omega)]
    exact ⟨hk, ha _ (fun _ _ _ _ => trivial) (by omega) fun e e0 e1 => by omega⟩
theorem IV.ala (T : TV t) (H : IV t f) (h0 : 0 ≤ d) (h1 : d < t 1) : IV t (alaF t f d) := by
  have n1 := T.n1
  unfold alaF
  refine (H.hapz T (by simp (disch := omega) only [zu_n]; exact H.1.1) (fun j _ hj hd => ?_) (by omega) (by omega)).set T
  have q := hd d h0 h1
  rw [zu_n q.2.1, zu_n q.1]
theorem IV.off (T : TV t) (H : IV t f) (h0 : 0 ≤ d) (h1 : d < t 1) : IV t (offF t f d) := by
  have n1 := T.n1
  unfold offF calF
  refine (H.hapz T (by simp (disch := omega) only [zu_n]; exact H.1.1) (fun j _ hj hd => ?_) (by omega) (by omega)).set T
  have q := hd d h0 h1
  rw [zu_n q.2.2, zu_n q.1]
theorem IV.tak (T : TV t) (F : FV B t f g) (V : CV f) (H : IV t f) (h0 : 0 ≤ d) (h1 : d < t 1) : IV t (takF t f d kind) := by
  have n1 := T.n1
  have n2 := T.n2
  have mn := F.mn d h0 h1
  have V1 : CV (keeF f d kind) := V.to fun j hj => keeF_o h0 mn.1 mn.2 (by omega)
  have e : ∀ j, (j = 12 ∨ (14 ≤ j ∧ j < 274)) → (j < 14 + 28 * d + 3 ∨ 14 + 28 * d + 28 ≤ j) → couF (keeF f d kind) (4 * d + kind) j = f j := fun j j0 j1 => by rw [couF_o V1 (by omega), keeF_o h0 mn.1 mn.2 j1]
  have H1 : IV t (couF (keeF f d kind) (4 * d + kind)) := by
    refine H.to T (by rw [e 12 (by omega) (by omega)]; exact H.1.1) (fun x x0 x1 => e _ (by omega) (by omega)) fun k k0 k1 hk => ?_
    rw [e (238 + 3 * k) (by omega) (by omega)] at hk
    exact ⟨hk, e _ (by omega) (by omega)⟩
  unfold takF
  split
  · exact H1
  · split
    · exact H1
    · exact H1.ala T h0 h1
theorem IV.plu (T : TV t) (H : IV t f) (h0 : 0 ≤ d) (h1 : d < t 1) : IV t (pluF t f d d) := by
  have n1 := T.n1
  have n2 := T.n2
  unfold pluF
  have e : ∀ j, j ≠ 14 + 28 * d + 0 → j ≠ 14 + 28 * d + 3 → zu (zu f (14 + 28 * d + 0) d) (14 + 28 * d + 3) 0 j = f j := fun j j0 j1 => by rw [zu_n j1, zu_n j0]
  have ed : zu (zu f (14 + 28 * d + 0) d) (14 + 28 * d + 3) 0 (14 + 28 * d + 0) = d := by rw [zu_n (by omega), zu_s]
  refine IV.set T ⟨H.1.to T (by rw [e 12 (by omega) (by omega)]; exact H.1.1) (fun x x0 x1 hx => ?_) (fun k k0 k1 hk => ?_), ?_, fun x x0 x1 => ?_⟩
  · by_cases q : x = d
    · subst q; rw [ed]; omega
    · rw [e _ (by omega) (by omega)]; exact hx
  · rw [e (238 + 3 * k) (by omega) (by omega)] at hk
    exact ⟨hk, e _ (by omega) (by omega)⟩
  · have := resvF_to (t := t) (f := f) (a := zu (zu f (14 + 28 * d + 0) d) (14 + 28 * d + 3) 0) T fun k k0 k1 hk => by rw [e (238 + 3 * k) (by omega) (by omega)] at hk; exact hk
    have := H.2.1
    omega
  · by_cases q : x = d
    · subst q; exact Or.inr ed
    · rw [e _ (by omega) (by omega)]; exact H.2.2 x x0 x1
theorem apF_d (T : TV t) (H : IV t f) (h0 : 0 ≤ d) (h1 : d < t 1) (hp : f (14 + 28 * d + 0) = -1) : apF t f d = -1 := by
  have hN := T.n1N
  unfold apF
  rcases fstI_in (p := fun k => decide (f (14 + 28 * k + 0) = d)) (t 1).toNat 0 with q | ⟨q0, q1, q2⟩
  · exact q
  · have q3 := of_decide_eq_true q2
    generalize fstI (fun k => decide (f (14 + 28 * k + 0) = d)) (t 1).toNat 0 = z at q0 q1 q3
    have := H.2.2 z q0 (by omega)
    have e : z = d := by omega
    subst e
    omega
/-! A device that is pulled out. -/
theorem un0_o (T : TV t) (h12 : 0 ≤ f 12) (h0 : 0 ≤ d) (h1 : d < t 1) : (0 ≤ un0F f d 12) ∧ (∀ j, j < 338 → j ≠ 4 → j ≠ 5 → j ≠ 12 → j ≠ 14 + 28 * d + 0 → j ≠ 14 + 28 * d + 1 → j ≠ 14 + 28 * d + 3 → un0F f d j = f j) ∧ (un0F f d (14 + 28 * d + 0) = -1) ∧ (un0F f d (14 + 28 * d + 3) = 0) ∧ (f (14 + 28 * d + 1) = 1 → un0F f d 4 = f 4 + 1) := by
  have n1 := T.n1
  unfold un0F
  refine ⟨?_, fun j j0 j1 j2 j3 j4 j5 j6 => ?_, ?_, ?_, fun ha => ?_⟩
  · simp (disch := omega) only [zu_n]
    split
    · rw [hapF_12 h12 (by omega) (by omega)]; omega
    · rw [hapF_12 h12 (by omega) (by omega)]; omega
  · rw [zu_n j6, zu_n j5, zu_n j4]
    split
    · exact hapF_q h12 (by omega) (by omega) (by omega) j3 j0
    · exact hapF_q h12 (by omega) (by omega) (by omega) j3 j0
  · simp (disch := omega) only [zu_n, zu_s]
  · exact zu_s
  · simp (disch := omega) only [zu_n]
    rw [if_pos ha]
    exact hapF_kk h12 (by omega) (by omega)
def tornF (t f : Int → Int) (d : Int) : Int := forI (fun k a => a + (if f (238 + 3 * k + 1) = d ∧ 0 < f (238 + 3 * k + 2) then 1 else 0)) (t 2).toNat 0
theorem un1_o (T : TV t) (H : HV t f) (hh : ∀ k, 0 ≤ k → k < t 2 → f (238 + 3 * k) = 0 → f (238 + 3 * k + 1) = -1) (h0 : 0 ≤ d) (h1 : d < t 1) :
    (0 ≤ un1F t f d 12) ∧ (∀ j, j < 238 → j ≠ 4 → j ≠ 5 → j ≠ 9 → j ≠ 12 → j ≠ 14 + 28 * d + 0 → j ≠ 14 + 28 * d + 1 → j ≠ 14 + 28 * d + 3 → un1F t f d j = f j) ∧ (un1F t f d (14 + 28 * d + 0) = -1) ∧ (un1F t f d (14 + 28 * d + 3) = 0) ∧ (f (14 + 28 * d + 1) = 1 → un1F t f d 4 = f 4 + 1) ∧ (un1F t f d 9 = f 9 + tornF t f d) ∧ (∀ k, 0 ≤ k → k < t 2 → un1F t f d (238 + 3 * k) ≠ 0 → f (238 + 3 * k) ≠ 0 ∧ un1F t f d (238 + 3 * k + 1) = f (238 + 3 * k + 1) ∧ f (238 + 3 * k + 1) ≠ d) := by
  have n1 := T.n1
  have n2 := T.n2
  have hN := T.n2N
  obtain ⟨E, O, OP, OK, OA⟩ := un0_o (d := d) T H.1 h0 h1
  unfold un1F tornF
  have key := forI_inv (F := fun k a => undF a k d) (N := (t 2).toNat) (a := un0F f d)
    (I := fun n a => (0 ≤ a 12) ∧ (∀ j, j < 238 → j ≠ 9 → j ≠ 12 → a j = un0F f d j) ∧ (a 9 = f 9 + forI (fun k a => a + (if f (238 + 3 * k + 1) = d ∧ 0 < f (238 + 3 * k + 2) then 1 else 0)) n 0) ∧ (∀ k, 0 ≤ k → k < (n : Int) → k < t 2 → a (238 + 3 * k) ≠ 0 → f (238 + 3 * k) ≠ 0 ∧ a (238 + 3 * k + 1) = f (238 + 3 * k + 1) ∧ f (238 + 3 * k + 1) ≠ d) ∧ (∀ k, (n : Int) ≤ k → k < t 2 → a (238 + 3 * k) = f (238 + 3 * k) ∧ a (238 + 3 * k + 1) = f (238 + 3 * k + 1) ∧ a (238 + 3 * k + 2) = f (238 + 3 * k + 2)))
    (fun n a hn hI => by
      obtain ⟨A, Q, N9, K, R⟩ := hI
      have rn := R (n : Int) (by omega) (by omega)
      by_cases c : hdF a (n : Int) d = true
      · have c2 := of_decide_eq_true c
        rw [rn.1, rn.2.1] at c2
        have b12 : 0 ≤ becF a (n : Int) 0 (-1) 12 := by unfold becF; simp (disch := omega) only [zu_n]; exact A
        have bd : becF a (n : Int) 0 (-1) (238 + 3 * (n : Int) + 2) = f (238 + 3 * (n : Int) + 2) := by unfold becF; simp (disch := omega) only [zu_n]; exact rn.2.2
        have ho : ∀ b : Int → Int, b = becF a (n : Int) 0 (-1) ∨ b = hapF (becF a (n : Int) 0 (-1)) 7 (n : Int) → (0 ≤ b 12) ∧ (∀ j, j < 338 → j ≠ 9 → j ≠ 12 → j ≠ 238 + 3 * (n : Int) → j ≠ 238 + 3 * (n : Int) + 1 → b j = a j) ∧ b (238 + 3 * (n : Int)) = 0 := by
          intro b hb
          have q0 : ∀ j, j ≠ 238 + 3 * (n : Int) → j ≠ 238 + 3 * (n : Int) + 1 → becF a (n : Int) 0 (-1) j = a j := fun j j0 j1 => by unfold becF; rw [zu_n j1, zu_n j0]
          have q1 : becF a (n : Int) 0 (-1) (238 + 3 * (n : Int)) = 0 := by unfold becF; rw [zu_n (by omega), zu_s]
          rcases hb with rfl | rfl
          · exact ⟨b12, fun j j0 j1 j2 j3 j4 => q0 j j3 j4, q1⟩
          · refine ⟨by rw [hapF_12 b12 (by omega) (by omega)]; omega, fun j j0 j1 j2 j3 j4 => ?_, ?_⟩
            · rw [hapF_q b12 (by omega) (by omega) (by omega) j2 j0]; exact q0 j j3 j4
            · rw [hapF_q b12 (by omega) (by omega) (by omega) (by omega) (by omega)]; exact q1
        have hu : ∃ b : Int → Int, (b = becF a (n : Int) 0 (-1) ∨ b = hapF (becF a (n : Int) 0 (-1)) 7 (n : Int)) ∧ undF a (n : Int) d = zu b (238 + 3 * (n : Int) + 2) 0 ∧ b 9 = a 9 + (if f (238 + 3 * (n : Int) + 1) = d ∧ 0 < f (238 + 3 * (n : Int) + 2) then 1 else 0) := by
          unfold undF
          rw [if_pos c, bd]
          have q9 : becF a (n : Int) 0 (-1) 9 = a 9 := by unfold becF; simp (disch := omega) only [zu_n]
          by_cases z : f (238 + 3 * (n : Int) + 2) ≤ 0
          · rw [if_pos z]
            exact ⟨_, Or.inl rfl, rfl, by rw [if_neg (by omega), q9]; omega⟩
          · rw [if_neg z]
            refine ⟨_, Or.inr rfl, rfl, ?_⟩
            rw [if_pos ⟨c2.2, by omega⟩]
            have := hapF_kk (who := (n : Int)) b12 (kind := 7) (by omega) (by omega)
            rw [q9.symm]
            exact this
        obtain ⟨b, hb, hz, h9⟩ := hu
        obtain ⟨u0, u1, u2⟩ := ho b hb
        rw [hz]
        refine ⟨by rw [zu_n (by omega)]; exact u0, fun j j0 j1 j2 => ?_, ?_, fun k k0 k1 k2 hk => ?_, fun k k0 k1 => ?_⟩
        · rw [zu_n (by omega), u1 j (by omega) j1 j2 (by omega) (by omega)]; exact Q j j0 j1 j2
        · rw [zu_n (by omega), h9, N9, Int.add_assoc]; rfl
        · by_cases e : k = (n : Int)
          · subst e; rw [zu_n (by omega), u2] at hk; exact absurd rfl hk
          · rw [zu_n (by omega), u1 _ (by omega) (by omega) (by omega) (by omega) (by omega)] at hk
            rw [zu_n (by omega), u1 _ (by omega) (by omega) (by omega) (by omega) (by omega)]
            exact K k k0 (by push_cast at k1; omega) k2 hk
        · have e : k ≠ (n : Int) := by push_cast at k0; omega
          have r := R k (by push_cast at k0; omega) k1
          refine ⟨?_, ?_, ?_⟩
          · rw [zu_n (by omega), u1 _ (by omega) (by omega) (by omega) (by omega) (by omega)]; exact r.1
          · rw [zu_n (by omega), u1 _ (by omega) (by omega) (by omega) (by omega) (by omega)]; exact r.2.1
          · rw [zu_n (by omega), u1 _ (by omega) (by omega) (by omega) (by omega) (by omega)]; exact r.2.2
      · have c2 : ¬ (a (238 + 3 * (n : Int)) ≠ 0 ∧ a (238 + 3 * (n : Int) + 1) = d) := fun q => c (decide_eq_true q)
        rw [rn.1, rn.2.1] at c2
        unfold undF
        rw [if_neg c]
        refine ⟨A, Q, ?_, fun k k0 k1 k2 hk => ?_, fun k k0 k1 => R k (by push_cast at k0; omega) k1⟩
        · have z : ¬ (f (238 + 3 * (n : Int) + 1) = d ∧ 0 < f (238 + 3 * (n : Int) + 2)) := by
            intro q
            by_cases m0 : f (238 + 3 * (n : Int)) = 0
            · have := hh (n : Int) (by omega) (by omega) m0; omega
            · exact c2 ⟨m0, q.1⟩
          show a 9 = f 9 + (_ + _)
          rw [if_neg z, N9, Int.add_zero]
        · by_cases e : k = (n : Int)
          · subst e
            rw [rn.1] at hk
            exact ⟨hk, rn.2.1, fun q => c2 ⟨hk, q⟩⟩
          · exact K k k0 (by push_cast at k1; omega) k2 hk)
    ⟨E, fun _ _ _ _ => rfl, by rw [O 9 (by omega) (by omega) (by omega) (by omega) (by omega) (by omega) (by omega)]; exact (Int.add_zero _).symm, fun k k0 k1 => absurd k1 (by push_cast; omega), fun k k0 k1 => ⟨O _ (by omega) (by omega) (by omega) (by omega) (by omega) (by omega) (by omega), O _ (by omega) (by omega) (by omega) (by omega) (by omega) (by omega) (by omega), O _ (by omega) (by omega) (by omega) (by omega) (by omega) (by omega) (by omega)⟩⟩
  obtain ⟨A, Q, N9, K, R⟩ := key
  refine ⟨A, fun j j0 j1 j2 j3 j4 j5 j6 j7 => by rw [Q j j0 j3 j4]; exact O j (by omega) j1 j2 j4 j5 j6 j7, by rw [Q _ (by omega) (by omega) (by omega)]; exact OP, by rw [Q _ (by omega) (by omega) (by omega)]; exact OK, fun ha => by rw [Q 4 (by omega) (by omega) (by omega)]; exact OA ha, N9, fun k k0 k1 hk => K k k0 (by omega) k1 hk⟩
/-- what pulling a device out does -/
theorem unp_o (T : TV t) (H : IV t f) (hh : ∀ k, 0 ≤ k → k < t 2 → f (238 + 3 * k) = 0 → f (238 + 3 * k + 1) = -1) (h0 : 0 ≤ d) (h1 : d < t 1) :
    IV t (unpF t f d) ∧ (unpF t f d (14 + 28 * d + 0) = -1) ∧ (unpF t f d (14 + 28 * d + 3) = 0) ∧ (f (14 + 28 * d + 1) = 1 → unpF t f d 4 = f 4 + 1) ∧ (unpF t f d 9 = f 9 + tornF t f d) ∧ (unpF t f d 10 = f 10 + stF t f d) := by
  have n1 := T.n1
  have n2 := T.n2
  obtain ⟨E, O, OP, OK, OA, O9, K⟩ := un1_o (d := d) T H.1 hh h0 h1
  have e10 : un1F t f d 10 = f 10 := O 10 (by omega) (by omega) (by omega) (by omega) (by omega) (by omega) (by omega) (by omega)
  unfold unpF
  have z : ∀ j, j ≠ 10 → zu (un1F t f d) 10 (un1F t f d 10 + stF t f d) j = un1F t f d j := fun j hj => zu_n hj
  have z10 : zu (un1F t f d) 10 (un1F t f d 10 + stF t f d) 10 = f 10 + stF t f d := by rw [zu_s, e10]
  generalize zu (un1F t f d) 10 (un1F t f d 10 + stF t f d) = b at z z10
  have po : ∀ e, 0 ≤ e → e < t 1 → e ≠ d → b (14 + 28 * e + 0) = f (14 + 28 * e + 0) := fun e e0 e1 hne => by
    rw [z _ (by omega)]; exact O _ (by omega) (by omega) (by omega) (by omega) (by omega) (by omega) (by omega) (by omega)
  have pd : b (14 + 28 * d + 0) = -1 := by rw [z _ (by omega)]; exact OP
  have ms : ∀ k, 0 ≤ k → k < t 2 → b (238 + 3 * k) ≠ 0 → f (238 + 3 * k) ≠ 0 ∧ b (238 + 3 * k + 1) = f (238 + 3 * k + 1) ∧ f (238 + 3 * k + 1) ≠ d := fun k k0 k1 hk => by
    rw [z _ (by omega)] at hk; rw [z _ (by omega)]; exact K k k0 k1 hk
  have IB : IV t b := by
    refine ⟨⟨by rw [z _ (by omega)]; exact E, fun k k0 k1 hk => ?_⟩, ?_, fun e e0 e1 => ?_⟩
    · have q := ms k k0 k1 hk
      have r := H.1.2 k k0 k1 q.1
      rw [q.2.1, po _ r.1 r.2.1 q.2.2]
      exact r
    · have := resvF_to (t := t) (f := f) (a := b) T fun k k0 k1 hk => (ms k k0 k1 hk).1
      have := H.2.1
      omega
    · by_cases q : e = d
      · subst q; exact Or.inl pd
      · rw [po e e0 e1 q]; exact H.2.2 e e0 e1
  obtain ⟨⟨S0, S1, S2⟩, _, _⟩ := settle T IB.1
  refine ⟨IB.set T, ?_, ?_, fun ha => ?_, ?_, ?_⟩
  · rw [S1 _ (by omega) (by omega) (by omega) (by omega) (by omega)]; exact pd
  · rw [S1 _ (by omega) (by omega) (by omega) (by omega) (by omega), z _ (by omega)]; exact OK
  · rw [S1 _ (by omega) (by omega) (by omega) (by omega) (by omega), z _ (by omega)]; exact OA ha
  · rw [S1 _ (by omega) (by omega) (by omega) (by omega) (by omega), z _ (by omega)]; exact O9
  · rw [S1 _ (by omega) (by omega) (by omega) (by omega) (by omega)]; exact z10
end ZP2
