/-! WHOLE, OUT OF ONE EQUATION ABOUT THE LAW'S FUNCTION (open: hF is still owed). -/
set_option maxHeartbeats 4000000 in
theorem whole_open (hF : ∀ (L : Nat) (xs : Nat → Int32), L ≤ 3072 → fLaw L xs (fun _ => none) 0 (fun _ _ => 0) = some ()) {p : Program} {e : Env} {s : State} {m : MethodId} {below : List Frame} {meth : Method} {c : Code} (l : Launch) (hflags : l.flags = flags0) {b L : Nat} {xs : Nat → Int32} (hL : L ≤ 3072) (C0 : lw_At p s m meth c b L xs) : W p l e room_1 s m #[Value.ref b] below meth c s.heap [] 0 0 (lw_Z below #[Value.ref b] s) (entryFrame m ([Value.ref b] : List Value).toArray 9) := by
  obtain ⟨hx, hb, hr, hml, hown, hts, hX, hbl, hlocks, hgv⟩ := id C0
  obtain ⟨w, hw1, hw2, hK⟩ := start_K hts hgv
  have hst : l.stackTraces = false := by
    show (!l.flags.contains noTraceFlag) = false
    rw [hflags]
    decide +kernel
  have C : Cok ((p, l, e, room_1, s, m, #[Value.ref b], below, meth, c, lw_Z below #[Value.ref b] s) : Cxt) w cL_law 9 RL ret :=
    ⟨⟨hx, hb, hml, hown, fun v hv => hts v (List.mem_filter.mp hv).1⟩, hK, hr, hlocks, fun q _ => by rw [hw1], by show w.1.size ≤ s.heap.size; rw [hw1]; exact Nat.le_refl _⟩
  have S : LX ((p, l, e, room_1, s, m, #[Value.ref b], below, meth, c, lw_Z below #[Value.ref b] s) : Cxt) w b L xs := ⟨hX, hbl, by rw [hw1]; exact hbl, hw2, hL⟩
  have hE : ∀ (P : Shp) (n cells slots : Nat) (s' : St) (lv : List (Nat × Value)), cells ≤ 601024 → slots ≤ 7293034 → V ((p, l, e, room_1, s, m, #[Value.ref b], below, meth, c, lw_Z below #[Value.ref b] s) : Cxt) w 9 P n cells slots () (some ()) s' 1703 lv [] := by
    intro P n cells slots s' lv h1 h2
    refine v_iconst C dL_law_1703 ?_
    intro H locs ls hR hS hl _
    show W p l e room_1 s m #[Value.ref b] below meth c H locs cells slots (lw_Z below #[Value.ref b] s) (F0 m 1704 ls [.int 1])
    refine va_forget (fun q hq => ?_) ?_
    · have h := hS.2.2 q hq
      show s.heap.size ≤ q.base
      rw [← hw1]
      exact h
    · refine W.widen h1 h2 ?_
      exact lw_ret (d0 := s.drawn) (Drawn.sameBut.refl s.drawn lw_cs) hx hb hr hlocks dL_law_1704
  have hR : Rep w (fun _ => none) 0 (fun _ _ => 0) s.heap := ⟨by rw [hw1]; rfl, fun q _ => by rw [hw1], fun z k len h => by cases h⟩
  have hl := lv_entry ([.ref b]) (n := 9) (Nat.le_of_ble_eq_true rfl)
  have hl2 : lv_has (lg_sl ([.ref b]) ++ List.replicate (9 - (lg_sl ([.ref b])).length) Slot.unset).toArray 9 [(0, A w (-101))] := by rw [A_scr S]; exact hl
  rw [lg_entry_eq]
  exact v_law hst C S rfl hE (fun _ => none) 0 (fun _ _ => 0) s.heap [] _ hR va_S.rf hl2 (hF L xs hL)
