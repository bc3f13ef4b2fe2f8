/-! THE LINES as words. -/
def wHub : List Int := [104, 117, 98]
def wPat : List Int := [112, 97, 116, 116, 101, 114, 110]
def wDev : List Int := [100, 101, 118, 105, 99, 101]
def wStr : List Int := [115, 116, 114, 101, 97, 109]
def wAla : List Int := [97, 108, 97, 114, 109]
def wHei : List Int := [104, 101, 105, 114]
def kwW (v : Int) : List Int := if v = 0 then [99, 114, 99] else if v = 1 then [115, 116, 97, 108, 108] else if v = 2 then [106, 105, 116, 116, 101, 114] else [112, 111, 119, 101, 114]
section ZR2
variable {P : Shp} {σ σ' σ1 σ2 s μ μ' : St} {f t g : Int → Int} {a b c d e i j x y z v N cnt kd o w : Int} {R sp T : List Int} {n m r k L : Nat} {xs : Nat → Int32}
theorem lt12 : litT (-12) = wHub ++ [32] := by decide +kernel
theorem lt13 : litT (-13) = [32] ++ (numT 5 ++ [59]) := by decide +kernel
theorem lt14 : litT (-14) = wPat ++ ([32] ++ [112]) := by decide +kernel
theorem lt15 : litT (-15) = [32] := by decide +kernel
theorem lt20 : litT (-20) = [59] := by decide +kernel
theorem lt21 : litT (-21) = wDev ++ ([32] ++ [100]) := by decide +kernel
theorem lt22 : litT (-22) = [32] ++ (wHei ++ ([32] ++ [100])) := by decide +kernel
theorem lt23 : litT (-23) = wStr ++ ([32] ++ [115]) := by decide +kernel
theorem lt24 : litT (-24) = [32] ++ [100] := by decide +kernel
theorem lt25 : litT (-25) = wAla ++ [32] := by decide +kernel
theorem lt26 : litT (-26) = [32] ++ (numT 40 ++ [59]) := by decide +kernel
theorem ltk (h0 : 0 ≤ v) (h1 : v < 4) : litT (kdT v) = [32] ++ kwW v := by
  have h : v = 0 ∨ v = 1 ∨ v = 2 ∨ v = 3 := by omega
  rcases h with rfl | rfl | rfl | rfl <;> decide +kernel
theorem nm_app (c k : Int) (X : List Int) : nmT c k ++ X = [c] ++ ([97 + k] ++ X) := rfl
theorem hubT_w : hubT w ++ R = wHub ++ ([32] ++ (numT w ++ ([32] ++ (numT 5 ++ ([59] ++ R))))) := by
  unfold hubT
  rw [lt12, lt13]
  simp only [List.append_assoc]
theorem patT_w : patT L xs k ++ R = wPat ++ ([32] ++ (nmT 112 (k : Int) ++ ([32] ++ (numT (1 + pkV L xs (4 + (k : Int)) 9) ++ ([32] ++ (numT (5 + pkV L xs (7 + (k : Int)) 20) ++ (segL (kdL L xs k) 0 (pkV L xs (10 + (k : Int)) 3 + 1).toNat ++ ([59] ++ R)))))))) := by
  unfold patT
  rw [lt14, lt15, lt20, nm_app]
  simp only [List.append_assoc]
theorem devT_w : devT L xs k ++ R = wDev ++ ([32] ++ (nmT 100 (k : Int) ++ ([32] ++ (numT (k : Int) ++ (heiT L xs k ++ ([59] ++ R)))))) := by
  unfold devT
  rw [lt21, lt15, lt20, nm_app]
  simp only [List.append_assoc]
theorem heiT_w (h : 0 < (k : Int) ∧ 0 < pkV L xs (22 + (k : Int)) 3) : heiT L xs k ++ R = [32] ++ (wHei ++ ([32] ++ (nmT 100 (pkV L xs (26 + (k : Int)) (k : Int)) ++ R))) := by
  unfold heiT
  rw [if_pos h, lt22, nm_app]
  simp only [List.append_assoc]
theorem strT_w {c2 c4 : Int} : strT L xs c2 c4 k ++ R = wStr ++ ([32] ++ (nmT 115 (k : Int) ++ ([32] ++ (nmT 100 (pkV L xs (30 + (k : Int)) c2) ++ ([32] ++ (numT (2 + pkV L xs (35 + (k : Int)) (c4 - 1)) ++ ([32] ++ (numT (1 + pkV L xs (40 + (k : Int)) 60) ++ ([59] ++ R))))))))) := by
  unfold strT
  rw [lt23, lt24, lt15, lt20, nm_app, nm_app]
  simp only [List.append_assoc]
theorem alaT_w : alaT L xs ++ R = wAla ++ ([32] ++ (numT (3 + pkV L xs 45 12) ++ ([32] ++ (numT 40 ++ ([59] ++ R))))) := by
  unfold alaT
  rw [lt25, lt26]
  simp only [List.append_assoc]
theorem s32 (X : List Int) : ¬ isLt (gL ([32] ++ X) 0) := by
  show ¬ isLt 32
  unfold isLt
  omega
theorem s32d (X : List Int) : ¬ isDg (gL ([32] ++ X) 0) := by
  show ¬ isDg 32
  unfold isDg
  omega
theorem s59 (X : List Int) : ¬ isLt (gL ([59] ++ X) 0) := by
  show ¬ isLt 59
  unfold isLt
  omega
theorem s59d (X : List Int) : ¬ isDg (gL ([59] ++ X) 0) := by
  show ¬ isDg 59
  unfold isDg
  omega
theorem lw_of (w : List Int) (h : w.all (fun c => decide (97 ≤ c ∧ c ≤ 122)) = true) : ∀ i, 0 ≤ i → i < (w.length : Int) → isLt (gL w i) := fun i i0 i1 => by
  unfold gL
  rw [List.getD_eq_getElem?_getD, List.getElem?_eq_getElem (show i.toNat < w.length by omega)]
  have q : 97 ≤ w[i.toNat]'(by omega) ∧ w[i.toNat]'(by omega) ≤ 122 := of_decide_eq_true (List.all_eq_true.mp h _ (List.getElem_mem _))
  exact q
/-- a word of the language at the line's head -/
theorem LPp.head {w : List Int} (L : LPp P σ f N e (w ++ R) μ) (h : w.all (fun c => decide (97 ≤ c ∧ c ≤ 122)) = true) (h1 : 1 ≤ w.length) (h8 : w.length ≤ 8) (hR : ¬ isLt (gL R 0)) : (∀ z, 0 ≤ -2 - z ∧ -2 - z < 10 → fX5_isWord P σ 1 z = some (if wdL w z = true then 1 else 0)) ∧ At f N (tE f N e) R ∧ tT f N e = 1 :=
  LPp.word (sp := []) (w := w) (R := R) L (Or.inl rfl) (lw_of w h) h1 h8 hR
theorem kw_len (h0 : 0 ≤ v) (h1 : v < 4) : 1 ≤ (kwW v).length ∧ (kwW v).length ≤ 8 ∧ (kwW v).all (fun c => decide (97 ≤ c ∧ c ≤ 122)) = true := by
  have h : v = 0 ∨ v = 1 ∨ v = 2 ∨ v = 3 := by omega
  rcases h with rfl | rfl | rfl | rfl <;> decide +kernel
theorem LPp.kind (L : LPp P σ f N e ([32] ++ (kwW v ++ R)) μ) (h0 : 0 ≤ v) (h1 : v < 4) (hR : ¬ isLt (gL R 0)) : fX5_kindOfWord P σ 1 = some v ∧ At f N (tE f N e) R ∧ tT f N e = 1 := by
  have kl := kw_len h0 h1
  obtain ⟨q1, q2, q3, q4, q5⟩ := tk_w L.at' (Or.inr rfl) (lw_of _ kl.2.2) kl.1 kl.2.1 hR
  refine ⟨?_, q2, q1⟩
  rw [c_kindOfWord L.ct]
  congr 1
  unfold kwF
  rw [q3, q3, q3, q3]
  have h : v = 0 ∨ v = 1 ∨ v = 2 ∨ v = 3 := by omega
  rcases h with rfl | rfl | rfl | rfl <;> decide +kernel
theorem LPp.nkind (L : LPp P σ f N e R μ) (h : tT f N e ≠ 1) : fX5_kindOfWord P σ 1 = some (-1) := by
  rw [c_kindOfWord L.ct]
  congr 1
  unfold kwF wdB
  simp only [decide_eq_false h, Bool.false_and, Bool.false_eq_true, if_false]
end ZR2
