/-! ROWS of V: switches, joins, Math, arraycopy, constants. -/
section VS
variable {α : Type}
def jsf (x : Int) : List (Int × Option α) → Option α → Option α
  | [], d => d
  | (v, k) :: r, d => if x = v then k else jsf x r d
def jsw (x : Int) (L : List (Int × Option α)) (d : Option α) : Option α := if inR x then jsf x L d else none
def jnt {γ : Type} (k0 : γ) (f : γ → Option α) : Option α := f k0
def mx (x y : Int) (K : Int → Option α) : Option α := if inR x ∧ inR y then K (if x < y then y else x) else none
def mn (x y : Int) (K : Int → Option α) : Option α := if inR x ∧ inR y then K (if y < x then y else x) else none
def cps (σ : St) (a sp b dp n : Int) : St := fun y j => if y = b ∧ dp ≤ j ∧ j < dp + n then σ a (sp + (j - dp)) else σ y j
def okC (P : Shp) (k : Nat) (a sp b dp n : Int) : Bool := match P a, P b with
  | some p, some q => p.1 == k && q.1 == k && decide (0 ≤ sp) && decide (0 ≤ dp) && decide (0 ≤ n) && decide (sp + n ≤ p.2) && decide (dp + n ≤ q.2)
  | _, _ => false
def cpA (P : Shp) (k : Nat) (σ : St) (a sp b dp n : Int) (K : St → Option α) : Option α := if okC P k a sp b dp n = true then K (cps σ a sp b dp n) else none
theorem okC_of {P : Shp} {k : Nat} {a sp b dp n : Int} (h : okC P k a sp b dp n = true) : ∃ l1 l2 : Nat, P a = some (k, l1) ∧ P b = some (k, l2) ∧ 0 ≤ sp ∧ 0 ≤ dp ∧ 0 ≤ n ∧ sp + n ≤ l1 ∧ dp + n ≤ l2 := by
  unfold okC at h
  split at h
  · rename_i p q hp hq
    simp only [Bool.and_eq_true, decide_eq_true_eq, beq_iff_eq] at h
    obtain ⟨⟨⟨⟨⟨⟨h1, h2⟩, h3⟩, h4⟩, h5⟩, h6⟩, h7⟩ := h
    exact ⟨p.2, q.2, by rw [hp, ← h1], by rw [hq, ← h2], h3, h4, h5, h6, h7⟩
  · cases h
def sln (z : Int) (K : Int → Option α) : Option α := if 0 ≤ -2 - z ∧ -2 - z < 25 then K ((lenS.getD (-2 - z).toNat 0 : Nat) : Int) else none
def sch (z i : Int) (K : Int → Option α) : Option α := if 0 ≤ -2 - z ∧ -2 - z < 25 ∧ 0 ≤ i ∧ i < ((lenS.getD (-2 - z).toNat 0 : Nat) : Int) then K ((bytS.getD (-2 - z).toNat []).getD i.toNat 0).toInt else none
end VS
section VU
variable {X : Cxt} {w : Wd} {cc : ByteArray} {nL : Nat} {own : String} {ret : Option FieldType} {P : Shp} {n cells slots : Nat} {α : Type} {res : α} {K : Option α} {σ : St} {pc : Nat} {lv : List (Nat × Value)} {st : List Value}
theorem v_none : V X w nL P n cells slots res none σ pc lv st := fun _ _ _ _ _ _ h => nomatch h
theorem v_sub (lv' : List (Nat × Value)) (ks : List Nat) (h : lv_pick lv ks = lv') (k : V X w nL P n cells slots res K σ pc lv' st) : V X w nL P n cells slots res K σ pc lv st :=
  fun H locs ls hR hS hl hK => k H locs ls hR hS (lv_sub hl ks h) hK
theorem v_jnt {γ : Type} (Z : γ → Prop) {k0 : γ} {f : γ → Option α} (hZ : Z k0) (k : ∀ j : γ, Z j → V X w nL P n cells slots res (f j) σ pc lv st) : V X w nL P n cells slots res (jnt k0 f) σ pc lv st := k k0 hZ
theorem Cee.of {y : MethodName} {b : ByteArray} {ml k : Nat} {rt : Option FieldType} {rm R : Room} (h1 : Cond.code y b ml rt ∈ TB) (h2 : Cond.initialized y.cls ∈ TB) (h3 : y.cls ≠ "java/lang/invoke/MethodHandle" ∧ y.cls ≠ "java/lang/invoke/VarHandle" ∧ (parseMethodDescriptor y.desc).map (fun d => d.parameters.length) = some k) (h4 : rm.cells = 0) (h5 : rm.slots = 0) (hR : X.2.2.2.1 = R) (h6 : rm.frames + 1 ≤ R.frames) (h7 : 8 + (ml + 11) + rm.locals ≤ R.locals) : Cee X y b ml rt rm k :=
  ⟨h1, h2, h3, h4, h5, by rw [hR]; exact h6, by rw [hR]; exact h7⟩
theorem v_ldcS {idx : Nat} {tx : String} {i : Nat} {z : Int} (C : Cok X w cc nL own ret) (h : (own, idx, tx, i) ∈ strs) (d : decode cc pc = .ok (.ldc idx, 2)) (hz : z = -2 - (i : Int)) (k : V X w nL P n cells slots res K σ (pc + 2) lv (A w z :: st)) : V X w nL P n cells slots res K σ pc lv st :=
  fun H locs ls hR hS hl hK => by
    have e : ad w z = w.2.1 i := by
      subst hz
      unfold ad
      rw [if_neg (by omega), show (-2 - (-2 - (i : Int))).toNat = i by omega]
    have h2 := k H locs ls hR hS hl hK
    unfold A at h2
    rw [e] at h2
    exact va_ldcS C.1.1 C.1.2.1 C.1.2.2.2.1 (C.2.1.2.2.2.2.2.1 _ h) d h2
theorem v_ldc {idx : Nat} {v : Int32} {z : Int} (C : Cok X w cc nL own ret) (h : Cond.constant own idx v ∈ TB) (d : decode cc pc = .ok (.ldc idx, 2)) (hz : v = Int32.ofInt z) (k : V X w nL P n cells slots res K σ (pc + 2) lv (I z :: st)) : V X w nL P n cells slots res K σ pc lv st :=
  fun H locs ls hR hS hl hK => lv_ldc C.1.1 C.1.2.1 C.1.2.2.2.1 (C.wd h) d (by subst hz; exact k H locs ls hR hS hl hK)
theorem v_ldc_w {idx : Nat} {v : Int32} {z : Int} (C : Cok X w cc nL own ret) (h : Cond.constant own idx v ∈ TB) (d : decode cc pc = .ok (.ldc_w idx, 3)) (hz : v = Int32.ofInt z) (k : V X w nL P n cells slots res K σ (pc + 3) lv (I z :: st)) : V X w nL P n cells slots res K σ pc lv st :=
  fun H locs ls hR hS hl hK => lv_ldcw C.1.1 C.1.2.1 C.1.2.2.2.1 (C.wd h) d (by subst hz; exact k H locs ls hR hS hl hK)
theorem v_mx {idx : Nat} {x y : Int} {K : Int → Option α} (C : Cok X w cc nL own ret) (h1 : Cond.methodLink own idx Lib.Math.max.name ∈ TB) (h2 : Cond.static Lib.Math.max.name ∈ TB) (h3 : Cond.initialized "java/lang/Math" ∈ TB) (h4 : Cond.code Lib.Math.max.name Lib.Math.max.code 2 (some .int) ∈ TB) (hf : 1 ≤ X.2.2.2.1.frames) (hlo : 40 ≤ X.2.2.2.1.locals) (hsum : (st.map fun v => v.category).sum ≤ 20) (hcs : cells ≤ X.2.2.2.1.cells ∧ slots ≤ X.2.2.2.1.slots) (d : decode cc pc = .ok (.invokestatic idx, 3)) (k : ∀ x : Int, V X w nL P n cells slots res (K x) σ (pc + 3) lv (I x :: st)) : V X w nL P n cells slots res (mx x y K) σ pc lv (I y :: I x :: st) :=
  fun H locs ls hR hS hl hK => by
    obtain ⟨⟨g1, g2⟩, hK⟩ := gd hK
    refine va_mmax C.1.1 C.1.2.1 (C.1.2.2.1.trans hl.1.symm) C.1.2.2.2.1 (C.wd h1) (C.wd h2) (C.wd h3) (C.wd h4) hf (by omega) hcs.1 hcs.2 d ?_
    have e : (if Int32.ofInt x < Int32.ofInt y then Int32.ofInt y else Int32.ofInt x) = Int32.ofInt (if x < y then y else x) := by
      simp only [i32_lt g1 g2]
      split <;> rfl
    rw [e]
    exact k _ H locs ls hR hS hl hK
theorem v_mn {idx : Nat} {x y : Int} {K : Int → Option α} (C : Cok X w cc nL own ret) (h1 : Cond.methodLink own idx Lib.Math.min.name ∈ TB) (h2 : Cond.static Lib.Math.min.name ∈ TB) (h3 : Cond.initialized "java/lang/Math" ∈ TB) (h4 : Cond.code Lib.Math.min.name Lib.Math.min.code 2 (some .int) ∈ TB) (hf : 1 ≤ X.2.2.2.1.frames) (hlo : 40 ≤ X.2.2.2.1.locals) (hsum : (st.map fun v => v.category).sum ≤ 20) (hcs : cells ≤ X.2.2.2.1.cells ∧ slots ≤ X.2.2.2.1.slots) (d : decode cc pc = .ok (.invokestatic idx, 3)) (k : ∀ x : Int, V X w nL P n cells slots res (K x) σ (pc + 3) lv (I x :: st)) : V X w nL P n cells slots res (mn x y K) σ pc lv (I y :: I x :: st) :=
  fun H locs ls hR hS hl hK => by
    obtain ⟨⟨g1, g2⟩, hK⟩ := gd hK
    refine va_mmin C.1.1 C.1.2.1 (C.1.2.2.1.trans hl.1.symm) C.1.2.2.2.1 (C.wd h1) (C.wd h2) (C.wd h3) (C.wd h4) hf (by omega) hcs.1 hcs.2 d ?_
    have e : (if Int32.ofInt y < Int32.ofInt x then Int32.ofInt y else Int32.ofInt x) = Int32.ofInt (if y < x then y else x) := by
      simp only [i32_lt g2 g1]
      split <;> rfl
    rw [e]
    exact k _ H locs ls hR hS hl hK
/-- switches -/
def SW (X : Cxt) (w : Wd) (nL : Nat) (P : Shp) (n cells slots : Nat) (res : α) (σ : St) (lv : List (Nat × Value)) (st : List Value) : List Nat → List (Int × Option α) → Prop
  | [], [] => True
  | t :: ts, (_, k) :: r => V X w nL P n cells slots res k σ t lv st ∧ SW X w nL P n cells slots res σ lv st ts r
  | _, _ => False
theorem v_sw_nil : SW X w nL P n cells slots res σ lv st [] [] := trivial
theorem v_sw_cons {t : Nat} {ts : List Nat} {v : Int} {r : List (Int × Option α)} (h : V X w nL P n cells slots res K σ t lv st) (h2 : SW X w nL P n cells slots res σ lv st ts r) : SW X w nL P n cells slots res σ lv st (t :: ts) ((v, K) :: r) := ⟨h, h2⟩
theorem sw_find {x : Int} {d : Option α} : ∀ (ts : List Nat) (L : List (Int × Option α)), SW X w nL P n cells slots res σ lv st ts L → (∃ t, (x, t) ∈ (L.map Prod.fst).zip ts ∧ V X w nL P n cells slots res (jsf x L d) σ t lv st) ∨ (x ∉ L.map Prod.fst ∧ jsf x L d = d)
  | [], [], _ => Or.inr ⟨by simp, rfl⟩
  | t :: ts, (v, k) :: r, h => by
    by_cases hx : x = v
    · subst hx
      exact Or.inl ⟨t, by simp, by rw [jsf, if_pos rfl]; exact h.1⟩
    · rcases sw_find (x := x) (d := d) ts r h.2 with ⟨t2, h1, h2⟩ | ⟨h1, h2⟩
      · exact Or.inl ⟨t2, by simp only [List.map_cons, List.zip_cons_cons]; exact List.mem_cons_of_mem _ h1, by rw [jsf, if_neg hx]; exact h2⟩
      · exact Or.inr ⟨by simp only [List.map_cons, List.mem_cons, not_or]; exact ⟨hx, h1⟩, by rw [jsf, if_neg hx]; exact h2⟩
  | [], _ :: _, h => h.elim
  | _ :: _, [], h => h.elim
def swOk (lo hi : Int) (offs : Array Int) (pc : Nat) (vals : List Int) (tgts : List Nat) : Bool := (vals.zip tgts).all (fun q => decide (lo ≤ q.1) && decide (q.1 ≤ hi) && (offs[(q.1 - lo).toNat]? == some ((q.2 : Int) - (pc : Int)))) && (List.range (hi - lo + 1).toNat).all (fun j => vals.contains (lo + (j : Int)))
theorem v_tsw (C : Cok X w cc nL own ret) {x dflt lo hi : Int} {offs : Array Int} {len : Nat} {vals : List Int} {tgts : List Nat} {dt : Nat} {L : List (Int × Option α)} {dK : Option α} (d : decode cc pc = .ok (.tableswitch dflt lo hi offs, len)) (hv : L.map Prod.fst = vals) (hdt : (pc : Int) + dflt = (dt : Int)) (ok : swOk lo hi offs pc vals tgts = true) (hs : SW X w nL P n cells slots res σ lv st tgts L) (hd : V X w nL P n cells slots res dK σ dt lv st) : V X w nL P n cells slots res (jsw x L dK) σ pc lv (I x :: st) :=
  fun H locs ls hR hS hl hK => by
    obtain ⟨g, hK⟩ := gd hK
    have ex := i32_toInt g
    simp only [swOk, Bool.and_eq_true, List.all_eq_true, List.contains_iff_mem, decide_eq_true_eq, beq_iff_eq] at ok
    rcases sw_find (x := x) (d := dK) tgts L hs with ⟨t, h1, h2⟩ | ⟨h1, h2⟩
    · rw [hv] at h1
      obtain ⟨⟨o1, o2⟩, o3⟩ := ok.1 _ h1
      dsimp only at o1 o2 o3
      exact lv_tableIn (x := Int32.ofInt x) C.1.1 C.1.2.1 d (by rw [ex]; omega) (by rw [ex]; omega) (by rw [ex]; exact o3) (by omega) (h2 H locs ls hR hS hl hK)
    · rw [hv] at h1
      refine lv_tableOut (x := Int32.ofInt x) C.1.1 C.1.2.1 d ?_ hdt (hd H locs ls hR hS hl (by rw [← h2]; exact hK))
      rw [ex]
      by_cases hx : lo ≤ x ∧ x ≤ hi
      · exfalso
        have := ok.2 (x - lo).toNat (List.mem_range.mpr (by omega))
        rw [show lo + (((x - lo).toNat : Nat) : Int) = x by omega] at this
        exact h1 this
      · omega
def lwOk (pc : Nat) : List (Int × Int) → List Int → List Nat → Bool
  | [], [], [] => true
  | (a, o) :: r, v :: vs, t :: ts => decide (a = v) && decide ((pc : Int) + o = (t : Int)) && lwOk pc r vs ts
  | _, _, _ => false
theorem lw_find {x : Int} {d : Option α} {dflt : Int} {dt : Nat} (hd : V X w nL P n cells slots res d σ dt lv st) (hdt : (pc : Int) + dflt = (dt : Int)) : ∀ (ps : List (Int × Int)) (ts : List Nat) (L : List (Int × Option α)), lwOk pc ps (L.map Prod.fst) ts = true → SW X w nL P n cells slots res σ lv st ts L → ∃ t : Nat, (pc : Int) + Op.lookupswitch.offset ps dflt x = (t : Int) ∧ V X w nL P n cells slots res (jsf x L d) σ t lv st
  | [], [], [], _, _ => ⟨dt, by rw [Op.lookupswitch.offset]; exact hdt, hd⟩
  | (a, o) :: ps, t :: ts, (v, k) :: r, h1, h2 => by
    simp only [List.map_cons, lwOk, Bool.and_eq_true, decide_eq_true_eq] at h1
    obtain ⟨⟨rfl, e2⟩, h1⟩ := h1
    by_cases hx : x = a
    · subst hx
      exact ⟨t, by rw [Op.lookupswitch.offset, if_pos rfl]; exact e2, by rw [jsf, if_pos rfl]; exact h2.1⟩
    · obtain ⟨t2, e3, e4⟩ := lw_find (x := x) (d := d) hd hdt ps ts r h1 h2.2
      exact ⟨t2, by rw [Op.lookupswitch.offset, if_neg (fun q => hx q.symm)]; exact e3, by rw [jsf, if_neg hx]; exact e4⟩
  | [], [], _ :: _, h, _ => by simp [lwOk] at h
  | [], _ :: _, _, h, _ => by cases ‹List (Int × Option α)› <;> simp [lwOk] at h
  | _ :: _, [], _, h, _ => by cases ‹List (Int × Option α)› <;> simp [lwOk] at h
  | _ :: _, _ :: _, [], h, _ => by simp [lwOk] at h
theorem v_lsw (C : Cok X w cc nL own ret) {x dflt : Int} {ps : Array (Int × Int)} {len : Nat} {vals : List Int} {tgts : List Nat} {dt : Nat} {L : List (Int × Option α)} {dK : Option α} (d : decode cc pc = .ok (.lookupswitch dflt ps, len)) (hv : L.map Prod.fst = vals) (hp : (ps.toList.zip (ps.toList.drop 1)).all (fun (a, next) => a.1 < next.1) = true) (hdt : (pc : Int) + dflt = (dt : Int)) (ok : lwOk pc ps.toList vals tgts = true) (hs : SW X w nL P n cells slots res σ lv st tgts L) (hd : V X w nL P n cells slots res dK σ dt lv st) : V X w nL P n cells slots res (jsw x L dK) σ pc lv (I x :: st) :=
  fun H locs ls hR hS hl hK => by
    obtain ⟨g, hK⟩ := gd hK
    obtain ⟨t, e1, e2⟩ := lw_find (x := x) (d := dK) hd hdt ps.toList tgts L (by rw [hv]; exact ok) hs
    exact lv_lookup (x := Int32.ofInt x) C.1.1 C.1.2.1 d hp rfl (by rw [i32_toInt g]; exact e1) (e2 H locs ls hR hS hl hK)
end VU
