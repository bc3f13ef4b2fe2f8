/-! THE COMBINATORS WHERE THEIR GUARDS HOLD (for the mathematical level). -/
section VX
variable {α β : Type} {P : Shp} {k len : Nat} {σ : St} {o i v x y : Int}
theorem okO_i (h : P o = some (k, len)) : okO P k o = true := by unfold okO; rw [h]; exact beq_self_eq_true k
theorem okA_i (h : P o = some (k, len)) (h0 : 0 ≤ i) (h1 : i < len) : okA P k o i = true := by unfold okA; rw [h]; simp [h0, h1]
theorem e_gF {K : Int → Option α} (h : P o = some (k, len)) : gF P k σ o i K = K (σ o i) := if_pos (okO_i h)
theorem e_gR {K : Int → Option α} (h : P o = some (k, len)) (hv : σ o i = v) (h1 : v ≠ -1) : gR P k σ o i K = K v := by unfold gR; rw [hv, if_pos ⟨okO_i h, h1⟩]
theorem e_pF {K : St → Option α} (h : P o = some (k, len)) : pF P k σ o i v K = K (wr σ o i v) := if_pos (okO_i h)
theorem e_pZ {K : St → Option α} (h : P o = some (k, len)) (hv : v = 0 ∨ v = 1) : pZ P k σ o i v K = K (wr σ o i v) := if_pos ⟨okO_i h, hv⟩
theorem e_pR {K : St → Option α} (h : P o = some (k, len)) (hv : v ≠ -1) : pR P k σ o i v K = K (wr σ o i v) := if_pos ⟨okO_i h, hv⟩
theorem e_aI {K : Int → Option α} (h : P o = some (k, len)) (h0 : 0 ≤ i) (h1 : i < len) : aI P k σ o i K = K (σ o i) := if_pos (okA_i h h0 h1)
theorem e_aR {K : Int → Option α} (h : P o = some (k, len)) (h0 : 0 ≤ i) (h1 : i < len) (hv : σ o i = v) (h2 : v ≠ -1) : aR P k σ o i K = K v := by unfold aR; rw [hv, if_pos ⟨okA_i h h0 h1, h2⟩]
theorem e_sI {K : St → Option α} (h : P o = some (k, len)) (h0 : 0 ≤ i) (h1 : i < len) : sI P k σ o i v K = K (wr σ o i v) := if_pos (okA_i h h0 h1)
theorem e_sB {K : St → Option α} (h : P o = some (k, len)) (h0 : 0 ≤ i) (h1 : i < len) : sB P k σ o i v K = K (wr σ o i (i2b v)) := if_pos (okA_i h h0 h1)
theorem e_sZ {K : St → Option α} (h : P o = some (k, len)) (h0 : 0 ≤ i) (h1 : i < len) (hv : v = 0 ∨ v = 1) : sZ P k σ o i v K = K (wr σ o i v) := if_pos ⟨okA_i h h0 h1, hv⟩
theorem e_aL {K : Int → Option α} (h : P o = some (k, len)) : aL P k o K = K (len : Int) := by unfold aL; rw [h]; exact if_pos rfl
theorem e_onO {K : Option α} (h : P o = some (k, len)) : onO P k o K = K := if_pos (okO_i h)
theorem e_cl {f : Option β} {r : β} {K : β → Option α} (h : f = some r) : cl f K = K r := by rw [h]; rfl
theorem e_lt {a c : Option α} (h : inR x ∧ inR y) : jlt x y a c = if x < y then a else c := if_pos h
theorem e_ge {a c : Option α} (h : inR x ∧ inR y) : jge x y a c = if y ≤ x then a else c := if_pos h
theorem e_gt {a c : Option α} (h : inR x ∧ inR y) : jgt x y a c = if y < x then a else c := if_pos h
theorem e_le {a c : Option α} (h : inR x ∧ inR y) : jle x y a c = if x ≤ y then a else c := if_pos h
theorem e_eq {a c : Option α} (h : inR x ∧ inR y) : jeq x y a c = if x = y then a else c := if_pos h
theorem e_ne {a c : Option α} (h : inR x ∧ inR y) : jne x y a c = if x = y then c else a := if_pos h
theorem e_dv {K : Int → Option α} (h : inR x ∧ inR y ∧ y ≠ 0) : dv x y K = K (x.tdiv y) := if_pos h
theorem e_rm {K : Int → Option α} (h : inR x ∧ inR y ∧ y ≠ 0) : rm x y K = K (x.tmod y) := if_pos h
theorem e_i2l {K : Int → Option α} (h : inR x) : i2l x K = K x := if_pos h
theorem e_lc {K : Int → Option α} (h : inL x ∧ inL y) : lc x y K = K (if y < x then 1 else if x = y then 0 else -1) := if_pos h
theorem e_bz {K : Option α} (h : x = 0 ∨ x = 1) : bz x K = K := if_pos h
theorem e_mx {K : Int → Option α} (h : inR x ∧ inR y) : mx x y K = K (if x < y then y else x) := if_pos h
theorem e_mn {K : Int → Option α} (h : inR x ∧ inR y) : mn x y K = K (if y < x then y else x) := if_pos h
theorem e_cpA {K : St → Option α} {a sp b dp n : Int} {l1 l2 : Nat} (h1 : P a = some (k, l1)) (h2 : P b = some (k, l2)) (h3 : 0 ≤ sp) (h4 : 0 ≤ dp) (h5 : 0 ≤ n) (h6 : sp + n ≤ l1) (h7 : dp + n ≤ l2) : cpA P k σ a sp b dp n K = K (cps σ a sp b dp n) := by
  unfold cpA okC
  rw [h1, h2]
  simp [h3, h4, h5, h6, h7]
theorem wr_s : wr σ o i v o i = v := by simp [wr]
theorem wr_i {j : Int} (h : j ≠ i) : wr σ o i v o j = σ o j := by simp [wr, h]
end VX