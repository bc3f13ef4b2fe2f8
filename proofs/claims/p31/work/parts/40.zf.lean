/-! THE MATHEMATICAL LEVEL: rules of evaluation, loops, the reference's state. -/
section ZA
variable {α β γ : Type} {P : Shp} {k : Nat} {σ : St} {o i v x y : Int}
def iR (x : Int) : Bool := decide (inR x)
def iL (x : Int) : Bool := decide (inL x)
theorem iR_t (h1 : -2147483648 ≤ x) (h2 : x < 2147483648) : iR x = true := decide_eq_true ⟨h1, h2⟩
theorem iR_of (h : iR x = true) : -2147483648 ≤ x ∧ x < 2147483648 := of_decide_eq_true h
theorem iL_t (h1 : -9223372036854775808 ≤ x) (h2 : x < 9223372036854775808) : iL x = true := decide_eq_true ⟨h1, h2⟩
theorem ite2 {c d : Prop} [Decidable c] [Decidable d] {a : Option α} : (if c ∧ d then a else none) = if decide c = true then (if decide d = true then a else none) else none := by by_cases h1 : c <;> by_cases h2 : d <;> simp [h1, h2]
theorem ite1 {c : Prop} [Decidable c] {a : Option α} : (if c then a else none) = if decide c = true then a else none := by by_cases h1 : c <;> simp [h1]
theorem ite3 {c d : Prop} [Decidable c] [Decidable d] {a : Option α} : (if c ∧ d then a else none) = if c then (if d then a else none) else none := by by_cases h1 : c <;> by_cases h2 : d <;> simp [h1, h2]
theorem ite4 {c d : Prop} [Decidable c] [Decidable d] {a : Option α} : (if c ∧ ¬d then a else none) = if c then (if d then none else a) else none := by by_cases h1 : c <;> by_cases h2 : d <;> simp [h1, h2]
theorem z_lt {a b : Option α} : jlt x y a b = if iR x = true then (if iR y = true then (if x < y then a else b) else none) else none := ite2
theorem z_ge {a b : Option α} : jge x y a b = if iR x = true then (if iR y = true then (if y ≤ x then a else b) else none) else none := ite2
theorem z_gt {a b : Option α} : jgt x y a b = if iR x = true then (if iR y = true then (if y < x then a else b) else none) else none := ite2
theorem z_le {a b : Option α} : jle x y a b = if iR x = true then (if iR y = true then (if x ≤ y then a else b) else none) else none := ite2
theorem z_eq {a b : Option α} : jeq x y a b = if iR x = true then (if iR y = true then (if x = y then a else b) else none) else none := ite2
theorem z_ne {a b : Option α} : jne x y a b = if iR x = true then (if iR y = true then (if x = y then b else a) else none) else none := ite2
theorem z_mx {K : Int → Option α} : mx x y K = if iR x = true then (if iR y = true then K (if x < y then y else x) else none) else none := ite2
theorem z_mn {K : Int → Option α} : mn x y K = if iR x = true then (if iR y = true then K (if y < x then y else x) else none) else none := ite2
theorem ite5 {c d e : Prop} [Decidable c] [Decidable d] [Decidable e] {a : Option α} : (if c ∧ d ∧ ¬e then a else none) = if decide c = true then (if decide d = true then (if e then none else a) else none) else none := by by_cases h1 : c <;> by_cases h2 : d <;> by_cases h3 : e <;> simp [h1, h2, h3]
theorem z_dv {K : Int → Option α} : dv x y K = if iR x = true then (if iR y = true then (if y = 0 then none else K (x.tdiv y)) else none) else none := ite5
theorem z_rm {K : Int → Option α} : rm x y K = if iR x = true then (if iR y = true then (if y = 0 then none else K (x.tmod y)) else none) else none := ite5
theorem z_i2l {K : Int → Option α} : i2l x K = if iR x = true then K x else none := ite1
theorem z_lc {K : Int → Option α} : lc x y K = if iL x = true then (if iL y = true then K (if y < x then 1 else if x = y then 0 else -1) else none) else none := ite2
theorem z_sw {L : List (Int × Option α)} {d : Option α} : jsw x L d = if iR x = true then jsf x L d else none := ite1
theorem z_sf {v : Int} {q : Option α} {L : List (Int × Option α)} {d : Option α} : jsf x ((v, q) :: L) d = if x = v then q else jsf x L d := rfl
theorem z_sn {d : Option α} : jsf x [] d = d := rfl
theorem z_bd {K : Int → Option α} : bd v K = K v := rfl
theorem z_nt {η : Type} {q : η} {f : η → Option α} : jnt q f = f q := rfl
theorem z_b0 {K : Option α} : bz 0 K = K := rfl
theorem z_b1 {K : Option α} : bz 1 K = K := rfl
theorem z_bi {c : Prop} [Decidable c] {K : Option α} : bz (if c then 1 else 0) K = K := by unfold bz; by_cases h : c <;> simp [h]
theorem z_bj {c : Prop} [Decidable c] {K : Option α} : bz (if c then 0 else 1) K = K := by unfold bz; by_cases h : c <;> simp [h]
theorem z_gF {K : Int → Option α} : gF P k σ o i K = if okO P k o = true then K (σ o i) else none := rfl
theorem z_gR {K : Int → Option α} : gR P k σ o i K = if okO P k o = true then (if σ o i = -1 then none else K (σ o i)) else none := ite4
theorem z_pF {K : St → Option α} : pF P k σ o i v K = if okO P k o = true then K (wr σ o i v) else none := rfl
theorem z_pZ {K : St → Option α} : pZ P k σ o i v K = if okO P k o = true then (if v = 0 ∨ v = 1 then K (wr σ o i v) else none) else none := ite3
theorem z_pR {K : St → Option α} : pR P k σ o i v K = if okO P k o = true then (if v = -1 then none else K (wr σ o i v)) else none := ite4
theorem z_aI {K : Int → Option α} : aI P k σ o i K = if okA P k o i = true then K (σ o i) else none := rfl
theorem z_aR {K : Int → Option α} : aR P k σ o i K = if okA P k o i = true then (if σ o i = -1 then none else K (σ o i)) else none := ite4
theorem z_sI {K : St → Option α} : sI P k σ o i v K = if okA P k o i = true then K (wr σ o i v) else none := rfl
theorem z_sB {K : St → Option α} : sB P k σ o i v K = if okA P k o i = true then K (wr σ o i (i2b v)) else none := rfl
theorem z_sZ {K : St → Option α} : sZ P k σ o i v K = if okA P k o i = true then (if v = 0 ∨ v = 1 then K (wr σ o i v) else none) else none := ite3
theorem z_on {K : Option α} : onO P k o K = if okO P k o = true then K else none := rfl
theorem z_cl {r : β} {K : β → Option α} : cl (some r) K = K r := rfl
theorem tdiv_nn (h : 0 ≤ x) : x.tdiv y = x / y := Int.tdiv_eq_ediv_of_nonneg h
theorem tmod_nn (h : 0 ≤ x) : x.tmod y = x % y := Int.tmod_eq_emod_of_nonneg h
/-- one place of a row of numbers -/
def zu (f : Int → Int) (i v : Int) : Int → Int := fun j => if j = i then v else f j
variable {f g : Int → Int} {j : Int}
theorem zu_s : zu f i v i = v := if_pos rfl
theorem zu_n (h : j ≠ i) : zu f i v j = f j := if_neg h
theorem zu_e (h : j = i) : zu f i v j = v := if_pos h
theorem wr_n {y j : Int} (h : y ≠ o) : wr σ o i v y j = σ y j := by rw [wr_o h]
/-- from 0 up -/
def forI (F : Int → γ → γ) : Nat → γ → γ
  | 0, a => a
  | n + 1, a => F (n : Int) (forI F n a)
theorem loop_v (L : Nat → Int → α → Option β) (kE : α → Option β) (N : Nat) (F : Int → α → α) (I : Nat → α → Prop)
    (hs : ∀ (k m : Nat) (a : α), k < N → I k a → L (m + 1) (k : Int) a = L m ((k : Int) + 1) (F k a) ∧ I (k + 1) (F k a))
    (he : ∀ (m : Nat) (a : α), I N a → L (m + 1) (N : Int) a = kE a) {m : Nat} {a : α} (hm : N < m) (h0 : I 0 a) : L m 0 a = kE (forI F N a) ∧ I N (forI F N a) := by
  have key : ∀ k : Nat, k ≤ N → L m 0 a = L (m - k) (k : Int) (forI F k a) ∧ I k (forI F k a) := by
    intro k
    induction k with
    | zero => intro _; exact ⟨rfl, h0⟩
    | succ k ih =>
      intro hk
      obtain ⟨e1, e2⟩ := ih (by omega)
      obtain ⟨g1, g2⟩ := hs k (m - k - 1) (forI F k a) (by omega) e2
      rw [show m - k - 1 + 1 = m - k from by omega] at g1
      refine ⟨e1.trans (g1.trans ?_), g2⟩
      rw [show m - (k + 1) = m - k - 1 from by omega]
      show L _ _ _ = L _ (((k + 1 : Nat)) : Int) _
      rw [Int.natCast_add]
      rfl
  obtain ⟨e1, e2⟩ := key N (Nat.le_refl _)
  have e3 := he (m - N - 1) _ e2
  rw [show m - N - 1 + 1 = m - N from by omega] at e3
  exact ⟨e1.trans e3, e2⟩
theorem loop_r (L : Nat → Int → α → Option β) (kE : α → Option β) (N : Nat) (F : Int → γ → γ) (R : Nat → α → γ → Prop)
    (hs : ∀ (k m : Nat) (a : α) (c : γ), k < N → R k a c → ∃ a', L (m + 1) (k : Int) a = L m ((k : Int) + 1) a' ∧ R (k + 1) a' (F k c))
    (he : ∀ (m : Nat) (a : α) (c : γ), R N a c → L (m + 1) (N : Int) a = kE a) {m : Nat} {a : α} {c : γ} (hm : N < m) (h0 : R 0 a c) : ∃ a', L m 0 a = kE a' ∧ R N a' (forI F N c) := by
  have key : ∀ k : Nat, k ≤ N → ∃ a', L m 0 a = L (m - k) (k : Int) a' ∧ R k a' (forI F k c) := by
    intro k
    induction k with
    | zero => intro _; exact ⟨a, rfl, h0⟩
    | succ k ih =>
      intro hk
      obtain ⟨b, e1, e2⟩ := ih (by omega)
      obtain ⟨b', g1, g2⟩ := hs k (m - k - 1) b (forI F k c) (by omega) e2
      rw [show m - k - 1 + 1 = m - k from by omega] at g1
      refine ⟨b', e1.trans (g1.trans ?_), g2⟩
      rw [show m - (k + 1) = m - k - 1 from by omega]
      show L _ _ _ = L _ (((k + 1 : Nat)) : Int) _
      rw [Int.natCast_add]
      rfl
  obtain ⟨b, e1, e2⟩ := key N (Nat.le_refl _)
  have e3 := he (m - N - 1) b _ e2
  rw [show m - N - 1 + 1 = m - N from by omega] at e3
  exact ⟨b, e1.trans e3, e2⟩
/-- the first place where p holds, from k on, n places -/
def fstI (p : Int → Bool) : Nat → Int → Int
  | 0, _ => -1
  | n + 1, k => if p k = true then k else fstI p n (k + 1)
theorem loop_f (L : Nat → Int → Option β) (kN : Option β) (kF : Int → Option β) (N : Nat) (p : Int → Bool)
    (hs : ∀ (k m : Nat), k < N → L (m + 1) (k : Int) = if p k = true then kF k else L m ((k : Int) + 1))
    (he : ∀ (m : Nat), L (m + 1) (N : Int) = kN) {m : Nat} (hm : N < m) (hk : kF (-1) = kN) : L m 0 = kF (fstI p N 0) := by
  have key : ∀ (j k m : Nat), k + j = N → j < m → L m (k : Int) = kF (fstI p j (k : Int)) := by
    intro j
    induction j with
    | zero =>
      intro k m h1 h2
      obtain ⟨m, rfl⟩ : ∃ q, m = q + 1 := ⟨m - 1, by omega⟩
      rw [show k = N from by omega, he m]
      exact hk.symm
    | succ j ih =>
      intro k m h1 h2
      obtain ⟨m, rfl⟩ : ∃ q, m = q + 1 := ⟨m - 1, by omega⟩
      rw [hs k m (by omega)]
      show _ = kF (if p k = true then (k : Int) else fstI p j ((k : Int) + 1))
      by_cases h : p k = true
      · rw [if_pos h, if_pos h]
      · rw [if_neg h, if_neg h]
        exact ih (k + 1) m (by omega) (by omega)
  exact key N 0 m (by omega) hm
theorem forI_inv {F : Int → γ → γ} {I : Nat → γ → Prop} {N : Nat} {a : γ} (hs : ∀ (k : Nat) (a : γ), k < N → I k a → I (k + 1) (F k a)) (h0 : I 0 a) : I N (forI F N a) := by
  have key : ∀ k : Nat, k ≤ N → I k (forI F k a) := by
    intro k
    induction k with
    | zero => intro _; exact h0
    | succ k ih => intro hk; exact hs k _ (by omega) (ih (by omega))
  exact key N (Nat.le_refl _)
theorem shA {n : Nat} {len : Nat} (h : ShpIs P n PL) (z : Nat) (e : PL[z]? = some (k, len)) : P (z : Int) = some (k, len) := h z _ e
end ZA
section ZB
variable {P : Shp} {i : Int} {n : Nat}
theorem sO0 (h : ShpIs P n PL) : okO P 7 0 = true := okO_i (shA (len := 0) h 0 (by decide +kernel))
theorem sO1 (h : ShpIs P n PL) : okO P 5 1 = true := okO_i (shA (len := 0) h 1 (by decide +kernel))
theorem sA2 (h : ShpIs P n PL) (h0 : 0 ≤ i) (h1 : i < 600) : okA P 9 2 i = true := okA_i (shA h 2 (by decide +kernel)) h0 h1
theorem sO3 (h : ShpIs P n PL) : okO P 4 3 = true := okO_i (shA (len := 0) h 3 (by decide +kernel))
theorem sA4 (h : ShpIs P n PL) (h0 : 0 ≤ i) (h1 : i < 6) : okA P 10 4 i = true := okA_i (shA h 4 (by decide +kernel)) h0 h1
theorem sA5 (h : ShpIs P n PL) (h0 : 0 ≤ i) (h1 : i < 6) : okA P 10 5 i = true := okA_i (shA h 5 (by decide +kernel)) h0 h1
theorem sA6 (h : ShpIs P n PL) (h0 : 0 ≤ i) (h1 : i < 6) : okA P 10 6 i = true := okA_i (shA h 6 (by decide +kernel)) h0 h1
theorem sA7 (h : ShpIs P n PL) (h0 : 0 ≤ i) (h1 : i < 30) : okA P 10 7 i = true := okA_i (shA h 7 (by decide +kernel)) h0 h1
theorem sA8 (h : ShpIs P n PL) (h0 : 0 ≤ i) (h1 : i < 8) : okA P 10 8 i = true := okA_i (shA h 8 (by decide +kernel)) h0 h1
theorem sA9 (h : ShpIs P n PL) (h0 : 0 ≤ i) (h1 : i < 8) : okA P 10 9 i = true := okA_i (shA h 9 (by decide +kernel)) h0 h1
theorem sA10 (h : ShpIs P n PL) (h0 : 0 ≤ i) (h1 : i < 12) : okA P 10 10 i = true := okA_i (shA h 10 (by decide +kernel)) h0 h1
theorem sA11 (h : ShpIs P n PL) (h0 : 0 ≤ i) (h1 : i < 12) : okA P 10 11 i = true := okA_i (shA h 11 (by decide +kernel)) h0 h1
theorem sA12 (h : ShpIs P n PL) (h0 : 0 ≤ i) (h1 : i < 12) : okA P 10 12 i = true := okA_i (shA h 12 (by decide +kernel)) h0 h1
theorem sA13 (h : ShpIs P n PL) (h0 : 0 ≤ i) (h1 : i < 6) : okA P 11 13 i = true := okA_i (shA h 13 (by decide +kernel)) h0 h1
theorem sA14 (h : ShpIs P n PL) (h0 : 0 ≤ i) (h1 : i < 8) : okA P 11 14 i = true := okA_i (shA h 14 (by decide +kernel)) h0 h1
theorem sA15 (h : ShpIs P n PL) (h0 : 0 ≤ i) (h1 : i < 12) : okA P 11 15 i = true := okA_i (shA h 15 (by decide +kernel)) h0 h1
theorem sO16 (h : ShpIs P n PL) : okO P 2 16 = true := okO_i (shA (len := 0) h 16 (by decide +kernel))
theorem sO17 (h : ShpIs P n PL) : okO P 4 17 = true := okO_i (shA (len := 0) h 17 (by decide +kernel))
theorem sA18 (h : ShpIs P n PL) (h0 : 0 ≤ i) (h1 : i < 6) : okA P 10 18 i = true := okA_i (shA h 18 (by decide +kernel)) h0 h1
theorem sA19 (h : ShpIs P n PL) (h0 : 0 ≤ i) (h1 : i < 6) : okA P 10 19 i = true := okA_i (shA h 19 (by decide +kernel)) h0 h1
theorem sA20 (h : ShpIs P n PL) (h0 : 0 ≤ i) (h1 : i < 6) : okA P 10 20 i = true := okA_i (shA h 20 (by decide +kernel)) h0 h1
theorem sA21 (h : ShpIs P n PL) (h0 : 0 ≤ i) (h1 : i < 30) : okA P 10 21 i = true := okA_i (shA h 21 (by decide +kernel)) h0 h1
theorem sA22 (h : ShpIs P n PL) (h0 : 0 ≤ i) (h1 : i < 8) : okA P 10 22 i = true := okA_i (shA h 22 (by decide +kernel)) h0 h1
theorem sA23 (h : ShpIs P n PL) (h0 : 0 ≤ i) (h1 : i < 8) : okA P 10 23 i = true := okA_i (shA h 23 (by decide +kernel)) h0 h1
theorem sA24 (h : ShpIs P n PL) (h0 : 0 ≤ i) (h1 : i < 12) : okA P 10 24 i = true := okA_i (shA h 24 (by decide +kernel)) h0 h1
theorem sA25 (h : ShpIs P n PL) (h0 : 0 ≤ i) (h1 : i < 12) : okA P 10 25 i = true := okA_i (shA h 25 (by decide +kernel)) h0 h1
theorem sA26 (h : ShpIs P n PL) (h0 : 0 ≤ i) (h1 : i < 12) : okA P 10 26 i = true := okA_i (shA h 26 (by decide +kernel)) h0 h1
theorem sO27 (h : ShpIs P n PL) : okO P 6 27 = true := okO_i (shA (len := 0) h 27 (by decide +kernel))
theorem sA28 (h : ShpIs P n PL) (h0 : 0 ≤ i) (h1 : i < 8) : okA P 10 28 i = true := okA_i (shA h 28 (by decide +kernel)) h0 h1
theorem sA29 (h : ShpIs P n PL) (h0 : 0 ≤ i) (h1 : i < 8) : okA P 10 29 i = true := okA_i (shA h 29 (by decide +kernel)) h0 h1
theorem sA30 (h : ShpIs P n PL) (h0 : 0 ≤ i) (h1 : i < 12) : okA P 10 30 i = true := okA_i (shA h 30 (by decide +kernel)) h0 h1
theorem sA31 (h : ShpIs P n PL) (h0 : 0 ≤ i) (h1 : i < 12) : okA P 10 31 i = true := okA_i (shA h 31 (by decide +kernel)) h0 h1
theorem sA32 (h : ShpIs P n PL) (h0 : 0 ≤ i) (h1 : i < 12) : okA P 10 32 i = true := okA_i (shA h 32 (by decide +kernel)) h0 h1
theorem sA33 (h : ShpIs P n PL) (h0 : 0 ≤ i) (h1 : i < 12) : okA P 11 33 i = true := okA_i (shA h 33 (by decide +kernel)) h0 h1
theorem sO34 (h : ShpIs P n PL) : okO P 0 34 = true := okO_i (shA (len := 0) h 34 (by decide +kernel))
theorem sA35 (h : ShpIs P n PL) (h0 : 0 ≤ i) (h1 : i < 8) : okA P 10 35 i = true := okA_i (shA h 35 (by decide +kernel)) h0 h1
theorem sA36 (h : ShpIs P n PL) (h0 : 0 ≤ i) (h1 : i < 96) : okA P 10 36 i = true := okA_i (shA h 36 (by decide +kernel)) h0 h1
theorem sA37 (h : ShpIs P n PL) (h0 : 0 ≤ i) (h1 : i < 96) : okA P 10 37 i = true := okA_i (shA h 37 (by decide +kernel)) h0 h1
theorem sA38 (h : ShpIs P n PL) (h0 : 0 ≤ i) (h1 : i < 32) : okA P 10 38 i = true := okA_i (shA h 38 (by decide +kernel)) h0 h1
theorem sA39 (h : ShpIs P n PL) (h0 : 0 ≤ i) (h1 : i < 32) : okA P 10 39 i = true := okA_i (shA h 39 (by decide +kernel)) h0 h1
theorem sO40 (h : ShpIs P n PL) : okO P 3 40 = true := okO_i (shA (len := 0) h 40 (by decide +kernel))
theorem sA41 (h : ShpIs P n PL) (h0 : 0 ≤ i) (h1 : i < 24) : okA P 10 41 i = true := okA_i (shA h 41 (by decide +kernel)) h0 h1
theorem sA42 (h : ShpIs P n PL) (h0 : 0 ≤ i) (h1 : i < 24) : okA P 10 42 i = true := okA_i (shA h 42 (by decide +kernel)) h0 h1
theorem sA43 (h : ShpIs P n PL) (h0 : 0 ≤ i) (h1 : i < 24) : okA P 10 43 i = true := okA_i (shA h 43 (by decide +kernel)) h0 h1
theorem sA44 (h : ShpIs P n PL) (h0 : 0 ≤ i) (h1 : i < 10) : okA P 10 44 i = true := okA_i (shA h 44 (by decide +kernel)) h0 h1
theorem sO45 (h : ShpIs P n PL) : okO P 1 45 = true := okO_i (shA (len := 0) h 45 (by decide +kernel))
theorem sA46 (h : ShpIs P n PL) (h0 : 0 ≤ i) (h1 : i < 10) : okA P 13 46 i = true := okA_i (shA h 46 (by decide +kernel)) h0 h1
theorem sA227 (h : ShpIs P n PL) (h0 : 0 ≤ i) (h1 : i < 2) : okA P 13 227 i = true := okA_i (shA h 227 (by decide +kernel)) h0 h1
theorem sA228 (h : ShpIs P n PL) (h0 : 0 ≤ i) (h1 : i < 2) : okA P 12 228 i = true := okA_i (shA h 228 (by decide +kernel)) h0 h1
end ZB
