/-! p31, OUT OF ONE EQUATION ABOUT THE LAW'S FUNCTION (open: hF is still owed). -/
set_option maxHeartbeats 4000000 in
theorem whole_open (hF : ∀ (L : Nat) (xs : Nat → Int32), L ≤ 260 → fL_law L xs (fun _ => none) 0 (fun _ _ => 0) = some ()) {p : Program} {e : Env} {s : State} {m : MethodId} {below : List Frame} {meth : Method} {c : Code} (l : Launch) (hflags : l.flags = flags0) {b L : Nat} {xs : Nat → Int32} (hL : L ≤ 260) (C0 : lw_At p s m meth c b L xs) : W p l e room_1 s m #[Value.ref b] below meth c s.heap [] 0 0 (lw_Z below #[Value.ref b] s) (entryFrame m ([Value.ref b] : List Value).toArray 5) := by
  obtain ⟨hx, hb, hr, hml, hown, hts, hX, hbl, hlocks, hgv⟩ := id C0
  obtain ⟨w, hw1, hw2, hw3, hw4, hK⟩ := start_K hL hX hbl hts hgv
  have hst : l.stackTraces = false := by
    show (!l.flags.contains noTraceFlag) = false
    rw [hflags]
    decide +kernel
  have C : Cok ((p, l, e, room_1, s, m, #[Value.ref b], below, meth, c, lw_Z below #[Value.ref b] s) : Cxt) w cL_law 5 RL ret :=
    ⟨⟨hx, hb, hml, hown, fun v hv => (List.mem_append.mp (List.mem_filter.mp hv).1).elim (hTBX hts v) (hts v)⟩, hK, hr, hlocks, fun q _ => by rw [hw1], by show w.1.size ≤ s.heap.size; rw [hw1]; exact Nat.le_refl _⟩
  have hE : LawEnd ((p, l, e, room_1, s, m, #[Value.ref b], below, meth, c, lw_Z below #[Value.ref b] s) : Cxt) w := by
    intro P n cells slots s' lv h1 h2 H locs ls hR hS hl _
    show W p l e room_1 s m #[Value.ref b] below meth c H locs cells slots (lw_Z below #[Value.ref b] s) (F0 m 156 ls [.int 1])
    refine va_forget (fun q hq => ?_) ?_
    · have h := hS.2.2 q hq
      show s.heap.size ≤ q.base
      rw [← hw1]
      exact h
    · refine W.widen h1 h2 ?_
      exact lw_ret hx hb hr hlocks dL_law_156
  have hR : Rep w (fun _ => none) 0 (fun _ _ => 0) s.heap := ⟨by rw [hw1]; rfl, fun q _ => by rw [hw1], fun z k len h => by cases h⟩
  have hl := lv_entry ([.ref b]) (n := 5) (Nat.le_of_ble_eq_true rfl)
  have hl2 : lv_has (lg_sl ([.ref b]) ++ List.replicate (5 - (lg_sl ([.ref b])).length) Slot.unset).toArray 5 [(0, A w (-101))] := by rw [A_scr, hw2]; exact hl
  rw [lg_entry_eq]
  exact v_lawB () hst rfl C hE s.heap [] _ hR va_S.rf hl2 (by rw [hw3, hw4]; exact hF L xs hL)
