/-! ROWS of V that speak of the heap; a method's contract; calls. -/
section VH
variable {X : Cxt} {w : Wd} {cc : ByteArray} {nL : Nat} {own : String} {ret : Option FieldType} {P : Shp} {n cells slots : Nat} {α : Type} {res : α} {σ : St} {pc : Nat} {lv : List (Nat × Value)} {st : List Value}
theorem P1 {D : va_G} {cl : List vw_C} {a : Nat} {e : va_E} {H : Heap} (h : va_at D cl (a, e) H) : va_P D cl [(a, e)] H := fun k q hq => by
  cases k with
  | zero => cases hq; exact h
  | succ k => simp at hq
theorem Cok.wd {cd : Cond} (C : Cok X w cc nL own ret) (h : cd ∈ TB) : cd.before X.2.2.2.2.2.2.1 X.2.2.2.2.1 = true := C.1.2.2.2.2 _ h
theorem Rep.nn {H : Heap} (h : Rep w P n σ H) {z : Int} {k len : Nat} (hz : P z = some (k, len)) : 0 ≤ z := (h.2.2 z k len hz).1
theorem Rep.len {H : Heap} (h : Rep w P n σ H) {z : Int} {k len : Nat} (hz : P z = some (k, len)) : len < 2147483648 := (h.2.2 z k len hz).2.2.1
theorem vl0 {z : Int} : vl w 0 z = I z := rfl
theorem vl1 {z : Int} : vl w 1 z = J z := rfl
theorem vl2 {z : Int} (h : z ≠ -1) : vl w 2 z = A w z := if_neg h
theorem v_get0 (C : Cok X w cc nL own ret) {ci k N idx t : Nat} {Cn : String} {T : u_T} {v : Value} {H : Heap} {locs : List Loc} {ls : Array Slot} {o : Int} {len : Nat} (hc : vwCl[ci]? = some (Cn, T, N)) (hin : ∀ v ∈ u_ws Cn T N, v ∈ TB) (hci : ci < 9) (hk : k < N) (ht : (fty ci)[k]? = some t) (hw : Cond.fieldLink own idx (T k).1 (T k).2.1 (T k).2.2.1 ∈ TB) (d : decode cc pc = .ok (.getfield idx, 3))
    (hR : Rep w P n σ H) (hP : P o = some (ci, len)) (hv : vl w t (σ o k) = v) (kk : Wx X H locs cells slots (F0 X.2.2.2.2.2.1 (pc + 3) ls (v :: st))) : Wx X H locs cells slots (F0 X.2.2.2.2.2.1 pc ls (A w o :: st)) := by
  have ha := hR.at hP
  rw [cellE_obj hci] at ha
  refine va_get (D := wD w) (cl := vwCl) (tys := wT w) C.1.1 C.1.2.1 C.1.2.2.2.2 hin C.1.2.2.2.1 C.2.1.1 (P1 ha) 0 rfl hc k hk (C.wd hw) (fun _ h => h) (v := v) ?_ d kk
  rw [fl_get _ _ _ _ ht, ← hv, Int.zero_add]
theorem v_getI (C : Cok X w cc nL own ret) {ci N idx : Nat} {Cn : String} {T : u_T} {o ki : Int} {K : Int → Option α} (k : Nat) (hki : ki = (k : Int)) (hc : vwCl[ci]? = some (Cn, T, N)) (hin : ∀ v ∈ u_ws Cn T N, v ∈ TB) (hci : ci < 9) (hk : k < N) (ht : (fty ci)[k]? = some 0) (hw : Cond.fieldLink own idx (T k).1 (T k).2.1 (T k).2.2.1 ∈ TB) (d : decode cc pc = .ok (.getfield idx, 3))
    (kk : ∀ x : Int, V X w nL P n cells slots res (K x) σ (pc + 3) lv (I x :: st)) : V X w nL P n cells slots res (gF P ci σ o ki K) σ pc lv (A w o :: st) := fun H locs ls hR hS hl hK => by
  obtain ⟨g, hK⟩ := gd hK
  obtain ⟨len, hP⟩ := okO_of g
  subst hki
  exact v_get0 C hc hin hci hk ht hw d hR hP rfl (kk _ H locs ls hR hS hl hK)
theorem v_getJ (C : Cok X w cc nL own ret) {ci N idx : Nat} {Cn : String} {T : u_T} {o ki : Int} {K : Int → Option α} (k : Nat) (hki : ki = (k : Int)) (hc : vwCl[ci]? = some (Cn, T, N)) (hin : ∀ v ∈ u_ws Cn T N, v ∈ TB) (hci : ci < 9) (hk : k < N) (ht : (fty ci)[k]? = some 1) (hw : Cond.fieldLink own idx (T k).1 (T k).2.1 (T k).2.2.1 ∈ TB) (d : decode cc pc = .ok (.getfield idx, 3))
    (kk : ∀ x : Int, V X w nL P n cells slots res (K x) σ (pc + 3) lv (J x :: st)) : V X w nL P n cells slots res (gF P ci σ o ki K) σ pc lv (A w o :: st) := fun H locs ls hR hS hl hK => by
  obtain ⟨g, hK⟩ := gd hK
  obtain ⟨len, hP⟩ := okO_of g
  subst hki
  exact v_get0 C hc hin hci hk ht hw d hR hP rfl (kk _ H locs ls hR hS hl hK)
theorem v_getR (C : Cok X w cc nL own ret) {ci N idx : Nat} {Cn : String} {T : u_T} {o ki : Int} {K : Int → Option α} (k : Nat) (hki : ki = (k : Int)) (hc : vwCl[ci]? = some (Cn, T, N)) (hin : ∀ v ∈ u_ws Cn T N, v ∈ TB) (hci : ci < 9) (hk : k < N) (ht : (fty ci)[k]? = some 2) (hw : Cond.fieldLink own idx (T k).1 (T k).2.1 (T k).2.2.1 ∈ TB) (d : decode cc pc = .ok (.getfield idx, 3))
    (kk : ∀ x : Int, V X w nL P n cells slots res (K x) σ (pc + 3) lv (A w x :: st)) : V X w nL P n cells slots res (gR P ci σ o ki K) σ pc lv (A w o :: st) := fun H locs ls hR hS hl hK => by
  obtain ⟨⟨g, g2⟩, hK⟩ := gd hK
  obtain ⟨len, hP⟩ := okO_of g
  subst hki
  exact v_get0 C hc hin hci hk ht hw d hR hP (vl2 g2) (kk _ H locs ls hR hS hl hK)
/-- a field that isn't final is written -/
theorem v_put0 (C : Cok X w cc nL own ret) {ci k N idx t : Nat} {Cn : String} {T : u_T} {ty0 : Nat → FieldType} {v : Value} {x : Int} {H : Heap} {locs : List Loc} {ls : Array Slot} {o : Int} {len : Nat} (hc : vwCl[ci]? = some (Cn, T, N)) (hin : ∀ v ∈ u_ws Cn T N, v ∈ TB) (hci : ci < 9) (hty : ∀ k, k < N → parseFieldDescriptor (T k).2.2.1 = some (ty0 k)) (hnm : ∀ a, a < N → ∀ b, b < N → a ≠ b → (T a).2.1 ≠ (T b).2.1) (hk : k < N) (ht : (fty ci)[k]? = some t) (hfin : (T k).2.2.2 = false) (hw : Cond.fieldLink own idx (T k).1 (T k).2.1 (T k).2.2.1 ∈ TB) (d : decode cc pc = .ok (.putfield idx, 3))
    (hR : Rep w P n σ H) (hS : va_S (wA w) X.2.2.2.2.1.heap H locs) (hP : P o = some (ci, len)) (hv : vl w t x = v) (hn : narrow (ty0 k) v = v) (hfit : fits (ty0 k) v = true) (kk : ∀ (H1 : Heap) (locs1 : List Loc), Rep w P n (wr σ o k x) H1 → va_S (wA w) X.2.2.2.2.1.heap H1 locs1 → Wx X H1 locs1 cells slots (F0 X.2.2.2.2.2.1 (pc + 3) ls st)) : Wx X H locs cells slots (F0 X.2.2.2.2.2.1 pc ls (v :: A w o :: st)) := by
  have ha := hR.at hP
  rw [cellE_obj hci] at ha
  have hK := C.2.1.1
  have hts := C.1.2.2.2.2
  have hown := C.1.2.2.2.1
  have hap := va_apart (own := own) hts hin ty0 hty hnm hK hc
  obtain ⟨r, h1, cell, q1, q2, q3, q4⟩ := ha
  have hr : r = (Cn, T, N) := Option.some.inj (h1.symm.trans hc)
  subst hr
  obtain ⟨hS', hfc, kC, hkC, hkind⟩ := hK.1 ci _ hc
  obtain ⟨cf, kf, fi, f, hi, hsl⟩ := hS' k hk
  have hlay := hts _ (hin _ (u_in_lay hk))
  unfold u_lay at hlay
  rw [if_neg (by rw [hfin]; decide)] at hlay
  have hst := (u_facts hfc hkC (u_lays hts hin hk) hi).1
  have h6 := u_store hfc hkC hkind hlay hi (hty k hk) hn hfit
  refine W.putK C.1.1 C.1.2.1 (f := f) ⟨hown, C.wd hw, ⟨_, _, _, hi⟩, hst⟩ (by rw [q2]; exact h6) q1 q3 (by rw [hsl]; exact k2_hasslot (q4 k hk)) rfl rfl d fun H' e1 e2 e3 => ?_
  rw [hsl] at e1 ⊢
  have hlf : k < (fl w (fty ci) 0 (σ o)).length := by rw [fl_len]; exact (List.getElem?_eq_some_iff.mp ht).1
  refine kk H' _ (hR.put hP e2 e3 ?_ (fun y hy => wr_o hy)) (wS_put hS e2 e3 (hR.nn hP))
  rw [cellE_obj hci]
  have e9 : fl w (fty ci) 0 (wr σ o k x o) = (fl w (fty ci) 0 (σ o)).set k v := by
    rw [← hv, fl_set _ _ _ _ ht]
    congr 1
    funext j
    simp [wr]
  rw [e9]
  exact ⟨_, hc, t_OB.to (V := updV (vp_V (fl w (fty ci) 0 (σ o))) k v) ⟨_, e1, q2, q3, t_set q4 hap hk v⟩ (fun j _ => vp_updV_set hlf v j)⟩
/-- a final field, in a constructor -/
theorem v_put0F (C : Cok X w cc nL own ret) {ci k N idx t : Nat} {Cn : String} {T : u_T} {ty0 : Nat → FieldType} {v : Value} {x : Int} {H : Heap} {locs : List Loc} {ls : Array Slot} {o : Int} {len : Nat} (hc : vwCl[ci]? = some (Cn, T, N)) (hin : ∀ v ∈ u_ws Cn T N, v ∈ TB) (hci : ci < 9) (hty : ∀ k, k < N → parseFieldDescriptor (T k).2.2.1 = some (ty0 k)) (hnm : ∀ a, a < N → ∀ b, b < N → a ≠ b → (T a).2.1 ≠ (T b).2.1) (hk : k < N) (ht : (fty ci)[k]? = some t) (hfin : (T k).2.2.2 = true) (hin2 : X.2.2.2.2.2.2.2.2.1.name = "<init>") (hdecl : (T k).1 = own) (hw : Cond.fieldLink own idx (T k).1 (T k).2.1 (T k).2.2.1 ∈ TB) (d : decode cc pc = .ok (.putfield idx, 3))
    (hR : Rep w P n σ H) (hS : va_S (wA w) X.2.2.2.2.1.heap H locs) (hP : P o = some (ci, len)) (hv : vl w t x = v) (hn : narrow (ty0 k) v = v) (hfit : fits (ty0 k) v = true) (kk : ∀ (H1 : Heap) (locs1 : List Loc), Rep w P n (wr σ o k x) H1 → va_S (wA w) X.2.2.2.2.1.heap H1 locs1 → Wx X H1 locs1 cells slots (F0 X.2.2.2.2.2.1 (pc + 3) ls st)) : Wx X H locs cells slots (F0 X.2.2.2.2.2.1 pc ls (v :: A w o :: st)) := by
  have ha := hR.at hP
  rw [cellE_obj hci] at ha
  have hK := C.2.1.1
  have hts := C.1.2.2.2.2
  have hown := C.1.2.2.2.1
  have hap := va_apart (own := own) hts hin ty0 hty hnm hK hc
  obtain ⟨r, h1, cell, q1, q2, q3, q4⟩ := ha
  have hr : r = (Cn, T, N) := Option.some.inj (h1.symm.trans hc)
  subst hr
  obtain ⟨hS', hfc, kC, hkC, hkind⟩ := hK.1 ci _ hc
  obtain ⟨cf, kf, fi, f, hi, hsl⟩ := hS' k hk
  have hlay := hts _ (hin _ (u_in_lay hk))
  unfold u_lay at hlay
  rw [if_pos hfin] at hlay
  have hst := (u_facts hfc hkC (u_lays hts hin hk) hi).1
  have hcf : X.2.2.2.2.2.1.cls = cf := by
    obtain ⟨_, _, c', _, _, _, -, -, hf', -, -, -, hown2, -⟩ := Cond.laysFinal_spec hlay
    have e1 : c' = cf := by have := hi.symm.trans hf'; simp at this; exact this.1.symm
    rw [hdecl] at hown2
    rw [← e1]; exact Option.some.inj (hown.symm.trans hown2)
  have h6 := u_fits hfc hkC hkind (Or.inr hlay) hi (hty k hk) hn hfit
  have hlf : k < (fl w (fty ci) 0 (σ o)).length := by rw [fl_len]; exact (List.getElem?_eq_some_iff.mp ht).1
  refine W.putFinK C.1.1 C.1.2.1 hown (C.wd hw) hi hst hcf hin2 (by rw [q2]; exact h6) q1 q3 (by rw [hsl]; exact k2_hasslot (q4 k hk)) rfl rfl d fun H' e1 e2 e3 => ?_
  rw [hsl] at e1 ⊢
  refine kk H' _ (hR.put hP e2 e3 ?_ (fun y hy => wr_o hy)) (wS_put hS e2 e3 (hR.nn hP))
  rw [cellE_obj hci]
  have e9 : fl w (fty ci) 0 (wr σ o k x o) = (fl w (fty ci) 0 (σ o)).set k v := by
    rw [← hv, fl_set _ _ _ _ ht]
    congr 1
    funext j
    simp [wr]
  rw [e9]
  exact ⟨_, hc, t_OB.to (V := updV (vp_V (fl w (fty ci) 0 (σ o))) k v) ⟨_, e1, q2, q3, t_set q4 hap hk v⟩ (fun j _ => vp_updV_set hlf v j)⟩
theorem v_putI (C : Cok X w cc nL own ret) {ci N idx : Nat} {Cn : String} {T : u_T} {ty0 : Nat → FieldType} {o ki x : Int} {K : St → Option α} (k : Nat) (hki : ki = (k : Int)) (hc : vwCl[ci]? = some (Cn, T, N)) (hin : ∀ v ∈ u_ws Cn T N, v ∈ TB) (hci : ci < 9) (hty : ∀ k, k < N → parseFieldDescriptor (T k).2.2.1 = some (ty0 k)) (hnm : ∀ a, a < N → ∀ b, b < N → a ≠ b → (T a).2.1 ≠ (T b).2.1) (hk : k < N) (ht : (fty ci)[k]? = some 0) (hfin : (T k).2.2.2 = false) (hw : Cond.fieldLink own idx (T k).1 (T k).2.1 (T k).2.2.1 ∈ TB) (d : decode cc pc = .ok (.putfield idx, 3)) (hty0 : ty0 k = .int)
    (kk : ∀ σ' : St, V X w nL P n cells slots res (K σ') σ' (pc + 3) lv st) : V X w nL P n cells slots res (pF P ci σ o ki x K) σ pc lv (I x :: A w o :: st) := fun H locs ls hR hS hl hK => by
  obtain ⟨g, hK⟩ := gd hK
  obtain ⟨len, hP⟩ := okO_of g
  subst hki
  exact v_put0 C hc hin hci hty hnm hk ht hfin hw d hR hS hP rfl (by rw [hty0]; rfl) (by rw [hty0]; rfl) (fun H1 locs1 h1 h2 => kk _ H1 locs1 ls h1 h2 hl hK)
theorem v_putJ (C : Cok X w cc nL own ret) {ci N idx : Nat} {Cn : String} {T : u_T} {ty0 : Nat → FieldType} {o ki x : Int} {K : St → Option α} (k : Nat) (hki : ki = (k : Int)) (hc : vwCl[ci]? = some (Cn, T, N)) (hin : ∀ v ∈ u_ws Cn T N, v ∈ TB) (hci : ci < 9) (hty : ∀ k, k < N → parseFieldDescriptor (T k).2.2.1 = some (ty0 k)) (hnm : ∀ a, a < N → ∀ b, b < N → a ≠ b → (T a).2.1 ≠ (T b).2.1) (hk : k < N) (ht : (fty ci)[k]? = some 1) (hfin : (T k).2.2.2 = false) (hw : Cond.fieldLink own idx (T k).1 (T k).2.1 (T k).2.2.1 ∈ TB) (d : decode cc pc = .ok (.putfield idx, 3)) (hty0 : ty0 k = .long)
    (kk : ∀ σ' : St, V X w nL P n cells slots res (K σ') σ' (pc + 3) lv st) : V X w nL P n cells slots res (pF P ci σ o ki x K) σ pc lv (J x :: A w o :: st) := fun H locs ls hR hS hl hK => by
  obtain ⟨g, hK⟩ := gd hK
  obtain ⟨len, hP⟩ := okO_of g
  subst hki
  exact v_put0 C hc hin hci hty hnm hk ht hfin hw d hR hS hP rfl (by rw [hty0]; rfl) (by rw [hty0]; rfl) (fun H1 locs1 h1 h2 => kk _ H1 locs1 ls h1 h2 hl hK)
theorem v_putZ (C : Cok X w cc nL own ret) {ci N idx : Nat} {Cn : String} {T : u_T} {ty0 : Nat → FieldType} {o ki x : Int} {K : St → Option α} (k : Nat) (hki : ki = (k : Int)) (hc : vwCl[ci]? = some (Cn, T, N)) (hin : ∀ v ∈ u_ws Cn T N, v ∈ TB) (hci : ci < 9) (hty : ∀ k, k < N → parseFieldDescriptor (T k).2.2.1 = some (ty0 k)) (hnm : ∀ a, a < N → ∀ b, b < N → a ≠ b → (T a).2.1 ≠ (T b).2.1) (hk : k < N) (ht : (fty ci)[k]? = some 0) (hfin : (T k).2.2.2 = false) (hw : Cond.fieldLink own idx (T k).1 (T k).2.1 (T k).2.2.1 ∈ TB) (d : decode cc pc = .ok (.putfield idx, 3)) (hty0 : ty0 k = .boolean)
    (kk : ∀ σ' : St, V X w nL P n cells slots res (K σ') σ' (pc + 3) lv st) : V X w nL P n cells slots res (pZ P ci σ o ki x K) σ pc lv (I x :: A w o :: st) := fun H locs ls hR hS hl hK => by
  obtain ⟨⟨g, g2⟩, hK⟩ := gd hK
  obtain ⟨len, hP⟩ := okO_of g
  subst hki
  exact v_put0 C hc hin hci hty hnm hk ht hfin hw d hR hS hP rfl (by rw [hty0]; rcases g2 with rfl | rfl <;> decide) (by rw [hty0]; rcases g2 with rfl | rfl <;> decide) (fun H1 locs1 h1 h2 => kk _ H1 locs1 ls h1 h2 hl hK)
theorem v_putR (C : Cok X w cc nL own ret) {ci N idx : Nat} {Cn : String} {T : u_T} {ty0 : Nat → FieldType} {o ki x : Int} {K : St → Option α} (k : Nat) (hki : ki = (k : Int)) (hc : vwCl[ci]? = some (Cn, T, N)) (hin : ∀ v ∈ u_ws Cn T N, v ∈ TB) (hci : ci < 9) (hty : ∀ k, k < N → parseFieldDescriptor (T k).2.2.1 = some (ty0 k)) (hnm : ∀ a, a < N → ∀ b, b < N → a ≠ b → (T a).2.1 ≠ (T b).2.1) (hk : k < N) (ht : (fty ci)[k]? = some 2) (hfin : (T k).2.2.2 = false) (hw : Cond.fieldLink own idx (T k).1 (T k).2.1 (T k).2.2.1 ∈ TB) (d : decode cc pc = .ok (.putfield idx, 3)) (hty0 : (∃ c, ty0 k = .object c) ∨ ∃ t, ty0 k = .array t)
    (kk : ∀ σ' : St, V X w nL P n cells slots res (K σ') σ' (pc + 3) lv st) : V X w nL P n cells slots res (pR P ci σ o ki x K) σ pc lv (A w x :: A w o :: st) := fun H locs ls hR hS hl hK => by
  obtain ⟨⟨g, g2⟩, hK⟩ := gd hK
  obtain ⟨len, hP⟩ := okO_of g
  subst hki
  exact v_put0 C hc hin hci hty hnm hk ht hfin hw d hR hS hP (vl2 g2) (by rcases hty0 with ⟨c, h⟩ | ⟨c, h⟩ <;> rw [h] <;> rfl) (by rcases hty0 with ⟨c, h⟩ | ⟨c, h⟩ <;> rw [h] <;> rfl) (fun H1 locs1 h1 h2 => kk _ H1 locs1 ls h1 h2 hl hK)
theorem v_putFR (C : Cok X w cc nL own ret) {ci N idx : Nat} {Cn : String} {T : u_T} {ty0 : Nat → FieldType} {o ki x : Int} {K : St → Option α} (k : Nat) (hki : ki = (k : Int)) (hc : vwCl[ci]? = some (Cn, T, N)) (hin : ∀ v ∈ u_ws Cn T N, v ∈ TB) (hci : ci < 9) (hty : ∀ k, k < N → parseFieldDescriptor (T k).2.2.1 = some (ty0 k)) (hnm : ∀ a, a < N → ∀ b, b < N → a ≠ b → (T a).2.1 ≠ (T b).2.1) (hk : k < N) (ht : (fty ci)[k]? = some 2) (hfin : (T k).2.2.2 = true) (hin2 : X.2.2.2.2.2.2.2.2.1.name = "<init>") (hdecl : (T k).1 = own) (hw : Cond.fieldLink own idx (T k).1 (T k).2.1 (T k).2.2.1 ∈ TB) (d : decode cc pc = .ok (.putfield idx, 3)) (hty0 : (∃ c, ty0 k = .object c) ∨ ∃ t, ty0 k = .array t)
    (kk : ∀ σ' : St, V X w nL P n cells slots res (K σ') σ' (pc + 3) lv st) : V X w nL P n cells slots res (pR P ci σ o ki x K) σ pc lv (A w x :: A w o :: st) := fun H locs ls hR hS hl hK => by
  obtain ⟨⟨g, g2⟩, hK⟩ := gd hK
  obtain ⟨len, hP⟩ := okO_of g
  subst hki
  exact v_put0F C hc hin hci hty hnm hk ht hfin hin2 hdecl hw d hR hS hP (vl2 g2) (by rcases hty0 with ⟨c, h⟩ | ⟨c, h⟩ <;> rw [h] <;> rfl) (by rcases hty0 with ⟨c, h⟩ | ⟨c, h⟩ <;> rw [h] <;> rfl) (fun H1 locs1 h1 h2 => kk _ H1 locs1 ls h1 h2 hl hK)
theorem v_bald (C : Cok X w cc nL own ret) {o i : Int} {K : Int → Option α} (d : decode cc pc = .ok (.baload, 1)) (kk : ∀ x : Int, V X w nL P n cells slots res (K x) σ (pc + 1) lv (I x :: st)) : V X w nL P n cells slots res (aI P 9 σ o i K) σ pc lv (I i :: A w o :: st) := fun H locs ls hR hS hl hK => by
  obtain ⟨g, hK⟩ := gd hK
  obtain ⟨len, hP, h0, h1⟩ := okA_of g
  have hL := hR.len hP
  refine va_bald (D := wD w) (cl := vwCl) (tys := wT w) C.1.1 C.1.2.1 C.2.1.1 (P1 (hR.at hP)) 0 0 rfl rfl (i32_in h0 h1 hL) d ?_
  have h := kk _ H locs ls hR hS hl hK
  rw [i32_clamp h0 h1 hL]
  try dsimp only
  rw [Int.toNat_of_nonneg h0]
  exact h
theorem v_iald (C : Cok X w cc nL own ret) {o i : Int} {K : Int → Option α} (d : decode cc pc = .ok (.iaload, 1)) (kk : ∀ x : Int, V X w nL P n cells slots res (K x) σ (pc + 1) lv (I x :: st)) : V X w nL P n cells slots res (aI P 10 σ o i K) σ pc lv (I i :: A w o :: st) := fun H locs ls hR hS hl hK => by
  obtain ⟨g, hK⟩ := gd hK
  obtain ⟨len, hP, h0, h1⟩ := okA_of g
  have hL := hR.len hP
  refine va_iald (D := wD w) (cl := vwCl) (tys := wT w) C.1.1 C.1.2.1 C.2.1.1 (P1 (hR.at hP)) 0 1 rfl rfl (i32_in h0 h1 hL) d ?_
  have h := kk _ H locs ls hR hS hl hK
  rw [i32_clamp h0 h1 hL]
  try dsimp only
  rw [Int.toNat_of_nonneg h0]
  exact h
theorem v_lald (C : Cok X w cc nL own ret) {o i : Int} {K : Int → Option α} (d : decode cc pc = .ok (.laload, 1)) (kk : ∀ x : Int, V X w nL P n cells slots res (K x) σ (pc + 1) lv (J x :: st)) : V X w nL P n cells slots res (aI P 11 σ o i K) σ pc lv (I i :: A w o :: st) := fun H locs ls hR hS hl hK => by
  obtain ⟨g, hK⟩ := gd hK
  obtain ⟨len, hP, h0, h1⟩ := okA_of g
  have hL := hR.len hP
  refine va_lald (D := wD w) (cl := vwCl) (tys := wT w) C.1.1 C.1.2.1 C.2.1.1 (P1 (hR.at hP)) 0 2 rfl rfl (i32_in h0 h1 hL) d ?_
  have h := kk _ H locs ls hR hS hl hK
  rw [i32_clamp h0 h1 hL]
  try dsimp only
  rw [Int.toNat_of_nonneg h0]
  exact h
theorem v_zald (C : Cok X w cc nL own ret) {o i : Int} {K : Int → Option α} (d : decode cc pc = .ok (.baload, 1)) (kk : ∀ x : Int, V X w nL P n cells slots res (K x) σ (pc + 1) lv (I x :: st)) : V X w nL P n cells slots res (aI P 12 σ o i K) σ pc lv (I i :: A w o :: st) := fun H locs ls hR hS hl hK => by
  obtain ⟨g, hK⟩ := gd hK
  obtain ⟨len, hP, h0, h1⟩ := okA_of g
  have hL := hR.len hP
  refine va_zald (D := wD w) (cl := vwCl) (tys := wT w) C.1.1 C.1.2.1 C.2.1.1 (P1 (hR.at hP)) 0 3 rfl rfl (i32_in h0 h1 hL) d ?_
  have h := kk _ H locs ls hR hS hl hK
  rw [i32_clamp h0 h1 hL]
  try dsimp only
  rw [Int.toNat_of_nonneg h0]
  exact h
theorem v_aald (C : Cok X w cc nL own ret) {o i : Int} {K : Int → Option α} (d : decode cc pc = .ok (.aaload, 1)) (kk : ∀ x : Int, V X w nL P n cells slots res (K x) σ (pc + 1) lv (A w x :: st)) : V X w nL P n cells slots res (aR P 13 σ o i K) σ pc lv (I i :: A w o :: st) := fun H locs ls hR hS hl hK => by
  obtain ⟨⟨g, g2⟩, hK⟩ := gd hK
  obtain ⟨len, hP, h0, h1⟩ := okA_of g
  have hL := hR.len hP
  refine va_aldq (D := wD w) (cl := vwCl) (tys := wT w) C.1.1 C.1.2.1 C.2.1.1 (P1 (hR.at hP)) 0 4 rfl rfl (i32_in h0 h1 hL) d ?_
  have h := kk _ H locs ls hR hS hl hK
  rw [i32_clamp h0 h1 hL]
  try dsimp only
  rw [Int.toNat_of_nonneg h0]
  rw [if_neg g2]; exact h
theorem v_iast (C : Cok X w cc nL own ret) {o i x : Int} {K : St → Option α} (d : decode cc pc = .ok (.iastore, 1)) (kk : ∀ σ' : St, V X w nL P n cells slots res (K σ') σ' (pc + 1) lv st) : V X w nL P n cells slots res (sI P 10 σ o i x K) σ pc lv (I x :: I i :: A w o :: st) := fun H locs ls hR hS hl hK => by
  obtain ⟨g, hK⟩ := gd hK
  obtain ⟨len, hP, h0, h1⟩ := okA_of g
  have hL := hR.len hP
  have ha := hR.at hP
  refine W.iast C.1.1 C.1.2.1 (show H[ad w o]? = some (vp_cell _ _) from ha) ((C.2.1.1.2 1 _ rfl).1 len (fun j => I (σ o j))) (fun q => by cases q) (by show ¬ (Int32.ofInt i < 0 ∨ (arrV _ _ _).slots.size ≤ _); rw [arrV_size]; exact i32_in h0 h1 hL) rfl rfl d fun H1 e z oq => ?_
  refine kk _ H1 _ ls (hR.put hP z oq ?_ (fun y hy => wr_o hy)) (wS_put hS z oq (hR.nn hP)) hl hK
  show H1[ad w o]? = some (vp_cell _ _)
  rw [e, vp_cell_i, vp_cell_i, arrV_store]
  congr 2
  funext q
  rw [i32_clamp h0 h1 hL]
  by_cases hq : q = i.toNat
  · have h9 : ((q : Nat) : Int) = i := by omega
    simp only [updV, if_pos hq, wr, h9, and_self, if_true]
    try rfl
  · have h9 : ¬ ((q : Nat) : Int) = i := by omega
    simp only [updV, if_neg hq, wr, h9, and_false, if_false]
theorem v_last (C : Cok X w cc nL own ret) {o i x : Int} {K : St → Option α} (d : decode cc pc = .ok (.lastore, 1)) (kk : ∀ σ' : St, V X w nL P n cells slots res (K σ') σ' (pc + 1) lv st) : V X w nL P n cells slots res (sI P 11 σ o i x K) σ pc lv (J x :: I i :: A w o :: st) := fun H locs ls hR hS hl hK => by
  obtain ⟨g, hK⟩ := gd hK
  obtain ⟨len, hP, h0, h1⟩ := okA_of g
  have hL := hR.len hP
  have ha := hR.at hP
  refine W.last C.1.1 C.1.2.1 (show H[ad w o]? = some (vp_cell _ _) from ha) ((C.2.1.1.2 2 _ rfl).1 len (fun j => J (σ o j))) (fun q => by cases q) (by show ¬ (Int32.ofInt i < 0 ∨ (arrV _ _ _).slots.size ≤ _); rw [arrV_size]; exact i32_in h0 h1 hL) rfl rfl d fun H1 e z oq => ?_
  refine kk _ H1 _ ls (hR.put hP z oq ?_ (fun y hy => wr_o hy)) (wS_put hS z oq (hR.nn hP)) hl hK
  show H1[ad w o]? = some (vp_cell _ _)
  rw [e, vp_cell_l, vp_cell_l, arrV_store]
  congr 2
  funext q
  rw [i32_clamp h0 h1 hL]
  by_cases hq : q = i.toNat
  · have h9 : ((q : Nat) : Int) = i := by omega
    simp only [updV, if_pos hq, wr, h9, and_self, if_true]
    try rfl
  · have h9 : ¬ ((q : Nat) : Int) = i := by omega
    simp only [updV, if_neg hq, wr, h9, and_false, if_false]
theorem v_bast (C : Cok X w cc nL own ret) {o i x : Int} {K : St → Option α} (d : decode cc pc = .ok (.bastore, 1)) (kk : ∀ σ' : St, V X w nL P n cells slots res (K σ') σ' (pc + 1) lv st) : V X w nL P n cells slots res (sB P 9 σ o i x K) σ pc lv (I x :: I i :: A w o :: st) := fun H locs ls hR hS hl hK => by
  obtain ⟨g, hK⟩ := gd hK
  obtain ⟨len, hP, h0, h1⟩ := okA_of g
  have hL := hR.len hP
  have ha := hR.at hP
  refine W.bast C.1.1 C.1.2.1 (show H[ad w o]? = some (vp_cell _ _) from ha) ((C.2.1.1.2 0 _ rfl).1 len (fun j => I (σ o j))) (fun q => by cases q) (by show ¬ (Int32.ofInt i < 0 ∨ (arrV _ _ _).slots.size ≤ _); rw [arrV_size]; exact i32_in h0 h1 hL) rfl rfl d fun H1 e z oq => ?_
  refine kk _ H1 _ ls (hR.put hP z oq ?_ (fun y hy => wr_o hy)) (wS_put hS z oq (hR.nn hP)) hl hK
  show H1[ad w o]? = some (vp_cell _ _)
  rw [e, vp_cell_i, vp_cell_i, arrV_store]
  congr 2
  funext q
  rw [i32_clamp h0 h1 hL]
  by_cases hq : q = i.toNat
  · have h9 : ((q : Nat) : Int) = i := by omega
    simp only [updV, if_pos hq, wr, h9, and_self, if_true]
    show Value.int (Int32.ofInt x).toInt8.toInt32 = Value.int (Int32.ofInt (i2b x)); rfl
  · have h9 : ¬ ((q : Nat) : Int) = i := by omega
    simp only [updV, if_neg hq, wr, h9, and_false, if_false]
theorem v_zast (C : Cok X w cc nL own ret) {o i x : Int} {K : St → Option α} (d : decode cc pc = .ok (.bastore, 1)) (kk : ∀ σ' : St, V X w nL P n cells slots res (K σ') σ' (pc + 1) lv st) : V X w nL P n cells slots res (sZ P 12 σ o i x K) σ pc lv (I x :: I i :: A w o :: st) := fun H locs ls hR hS hl hK => by
  obtain ⟨⟨g, g2⟩, hK⟩ := gd hK
  obtain ⟨len, hP, h0, h1⟩ := okA_of g
  have hL := hR.len hP
  have ha := hR.at hP
  refine W.zast C.1.1 C.1.2.1 (show H[ad w o]? = some (vp_cell _ _) from ha) ((C.2.1.1.2 3 _ rfl).1 len (fun j => I (σ o j))) (fun q => by cases q) (by show ¬ (Int32.ofInt i < 0 ∨ (arrV _ _ _).slots.size ≤ _); rw [arrV_size]; exact i32_in h0 h1 hL) rfl rfl d fun H1 e z oq => ?_
  refine kk _ H1 _ ls (hR.put hP z oq ?_ (fun y hy => wr_o hy)) (wS_put hS z oq (hR.nn hP)) hl hK
  show H1[ad w o]? = some (vp_cell _ _)
  rw [e, vp_cell_i, vp_cell_i, arrV_store]
  congr 2
  funext q
  rw [i32_clamp h0 h1 hL]
  by_cases hq : q = i.toNat
  · have h9 : ((q : Nat) : Int) = i := by omega
    simp only [updV, if_pos hq, wr, h9, and_self, if_true]
    rcases g2 with rfl | rfl <;> rfl
  · have h9 : ¬ ((q : Nat) : Int) = i := by omega
    simp only [updV, if_neg hq, wr, h9, and_false, if_false]
end VH
