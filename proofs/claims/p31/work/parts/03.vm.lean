/-! THE NUMBER HEAP: a heap seen as numbers by object and place; a method is a function over it. Rows of the kit, said over it once. -/
section VM
abbrev St : Type := Int → Int → Int
abbrev Shp : Type := Int → Option (Nat × Nat)
/-- a world: the launch's heap, the addresses of literals and of their bytes, the classes' numbers, the arrays' classes -/
abbrev Wd : Type := Heap × (Nat → Nat) × (Nat → Nat) × va_G × (Nat → ClassId) × Nat × (Nat → Int32)
def wA (w : Wd) : Nat → Prop := fun q => w.1.size ≤ q
def wD (w : Wd) : va_G := w.2.2.2.1
def wC (w : Wd) : Nat → ClassId := w.2.2.2.2.1
/-- the script -/
def wL (w : Wd) : Nat := w.2.2.2.2.2.1
def wX (w : Wd) : Nat → Int32 := w.2.2.2.2.2.2
def wT (w : Wd) : List (ClassId × FieldType) := [(wC w 0, .byte), (wC w 1, .int), (wC w 2, .long), (wC w 3, .boolean), (wC w 4, .object RX6)]
def ad (w : Wd) (z : Int) : Nat := if 0 ≤ z then w.1.size + z.toNat else w.2.1 (-2 - z).toNat
def I (z : Int) : Value := .int (Int32.ofInt z)
def J (z : Int) : Value := .long (Int64.ofInt z)
def A (w : Wd) (z : Int) : Value := .ref (ad w z)
def vl (w : Wd) (t : Nat) (z : Int) : Value := match t with
  | 0 => I z
  | 1 => J z
  | _ => if z = -1 then .null else A w z
def fl (w : Wd) : List Nat → Int → (Int → Int) → List Value
  | [], _, _ => []
  | t :: ts, i, c => vl w t (c i) :: fl w ts (i + 1) c
def fty : Nat → List Nat
  | 0 => [2, 2, 2, 0, 2, 2]
  | 1 => [2, 0, 0]
  | 2 => [2, 2]
  | 3 => [0, 0, 2, 2, 2, 2]
  | 4 => [0, 0, 0, 0, 0, 0, 0, 2, 2, 2, 2, 2, 2, 2, 2, 2]
  | 5 => [2, 0, 0, 0, 0, 0, 1, 0, 0, 2, 0, 2, 2, 2]
  | 6 => [0, 0, 2, 2, 2, 2, 2, 2, 2, 2]
  | 7 => [2, 2, 2, 2, 2]
  | 8 => [2, 0, 0, 0]
  | _ => []
def cellE (w : Wd) (k len : Nat) (c : Int → Int) : va_E := match k with
  | 9 => .inl (wC w 0, len, .inl (fun j => Int32.ofInt (c (j : Int))))
  | 10 => .inl (wC w 1, len, .inl (fun j => Int32.ofInt (c (j : Int))))
  | 11 => .inl (wC w 2, len, .inr (.inl (fun j => Int64.ofInt (c (j : Int)))))
  | 12 => .inl (wC w 3, len, .inl (fun j => Int32.ofInt (c (j : Int))))
  | 13 => .inl (wC w 4, len, .inr (.inr (.inr (.inr (fun j => if c (j : Int) = -1 then none else some (ad w (c (j : Int))))))))
  | k => .inr (k, fl w (fty k) 0 c)
def Rep (w : Wd) (P : Shp) (n : Nat) (σ : St) (H : Heap) : Prop :=
  H.size = w.1.size + n ∧ (∀ q : Nat, q < w.1.size → H[q]? = w.1[q]?) ∧ ∀ (z : Int) (k len : Nat), P z = some (k, len) → 0 ≤ z ∧ z.toNat < n ∧ len < 2147483648 ∧ va_at (wD w) vwCl (w.1.size + z.toNat, cellE w k len (σ z)) H
theorem ad_nn {w : Wd} {z : Int} (h : 0 ≤ z) : ad w z = w.1.size + z.toNat := if_pos h
theorem Rep.at {w : Wd} {P : Shp} {n : Nat} {σ : St} {H : Heap} (h : Rep w P n σ H) {z : Int} {k len : Nat} (hz : P z = some (k, len)) : va_at (wD w) vwCl (ad w z, cellE w k len (σ z)) H := by
  obtain ⟨h1, -, -, h4⟩ := h.2.2 z k len hz
  rw [ad_nn h1]; exact h4
/-- one cell is written -/
theorem Rep.put {w : Wd} {P : Shp} {n : Nat} {σ σ' : St} {H H1 : Heap} (h : Rep w P n σ H) {z : Int} {k len : Nat} (hz : P z = some (k, len)) (hs : H1.size = H.size) (ho : ∀ q : Nat, q ≠ ad w z → H1[q]? = H[q]?)
    (he : va_at (wD w) vwCl (ad w z, cellE w k len (σ' z)) H1) (hr : ∀ y : Int, y ≠ z → σ' y = σ y) : Rep w P n σ' H1 := by
  obtain ⟨h1, h2, h3⟩ := h
  obtain ⟨g1, g2, -, -⟩ := h3 z k len hz
  rw [ad_nn g1] at ho he
  refine ⟨hs.trans h1, fun q hq => (ho q (by omega)).trans (h2 q hq), fun y k2 l2 hy => ?_⟩
  obtain ⟨e1, e2, e3, e4⟩ := h3 y k2 l2 hy
  refine ⟨e1, e2, e3, ?_⟩
  by_cases hyz : y = z
  · subst hyz
    rw [hz] at hy
    cases hy
    exact he
  · rw [hr y hyz]
    exact e4.kept (ho _ (show w.1.size + y.toNat ≠ w.1.size + z.toNat by omega))
theorem wS_put {w : Wd} {H0 H H1 : Heap} {locs : List Loc} {z : Int} {k : Nat} (h : va_S (wA w) H0 H locs) (hs : H1.size = H.size) (ho : ∀ q : Nat, q ≠ ad w z → H1[q]? = H[q]?) (h0 : 0 ≤ z) : va_S (wA w) H0 H1 (locs ++ [⟨ad w z, k⟩]) :=
  va_S.put h hs ho (by show w.1.size ≤ ad w z; rw [ad_nn h0]; omega)
/-- the place i of the object o becomes v -/
def wr (σ : St) (o i v : Int) : St := fun y j => if y = o ∧ j = i then v else σ y j
theorem wr_o {σ : St} {o i v y : Int} (h : y ≠ o) : wr σ o i v y = σ y := by
  funext j; simp [wr, h]
theorem fl_get {w : Wd} {c : Int → Int} : ∀ (ts : List Nat) (i : Int) (k t : Nat), ts[k]? = some t → (fl w ts i c)[k]? = some (vl w t (c (i + k))) := by
  intro ts
  induction ts with
  | nil => intro i k t h; simp at h
  | cons a ts ih =>
    intro i k t h
    cases k with
    | zero =>
      simp at h
      subst h
      simp [fl]
    | succ k =>
      rw [List.getElem?_cons_succ] at h
      rw [fl, List.getElem?_cons_succ, ih (i + 1) k t h]
      congr 3
      push_cast
      omega
theorem fl_congr {w : Wd} {c d : Int → Int} : ∀ (ts : List Nat) (i : Int), (∀ j, i ≤ j → c j = d j) → fl w ts i c = fl w ts i d := by
  intro ts
  induction ts with
  | nil => intro i h; rfl
  | cons a ts ih => intro i h; rw [fl, fl, h i (Int.le_refl _), ih (i + 1) (fun j hj => h j (by omega))]
theorem fl_set {w : Wd} {c : Int → Int} {v : Int} : ∀ (ts : List Nat) (i : Int) (k t : Nat), ts[k]? = some t → (fl w ts i c).set k (vl w t v) = fl w ts i (fun j => if j = i + k then v else c j) := by
  intro ts
  induction ts with
  | nil => intro i k t h; simp at h
  | cons a ts ih =>
    intro i k t h
    cases k with
    | zero =>
      simp at h
      subst h
      rw [fl, fl, List.set_cons_zero]
      congr 1
      · simp
      · exact fl_congr ts (i + 1) (fun j hj => by rw [if_neg]; push_cast; omega)
    | succ k =>
      rw [List.getElem?_cons_succ] at h
      rw [fl, fl, List.set_cons_succ, ih (i + 1) k t h]
      congr 1
      · rw [if_neg]; push_cast; omega
      · apply fl_congr
        intro j hj
        have : (j = i + 1 + (k : Int)) ↔ (j = i + ((k + 1 : Nat) : Int)) := by push_cast; omega
        simp only [this]
theorem fl_len {w : Wd} {c : Int → Int} : ∀ (ts : List Nat) (i : Int), (fl w ts i c).length = ts.length := by
  intro ts
  induction ts with
  | nil => intro i; rfl
  | cons a ts ih => intro i; simp [fl, ih]
end VM
