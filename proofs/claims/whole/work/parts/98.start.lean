/-! THE LAW, TRUE. -/
theorem RR_next {P : Shp} {n : Nat} {s : St} (hn : n < 512) (h : RR P n s) : RR P (n + 1) s := by
  obtain ⟨p, t, G⟩ := h
  exact ⟨p, t, G.mono (by push_cast; omega) (by push_cast; omega)⟩
theorem fLoop_true {P : Shp} {L : Nat} {xs : Nat → Int32} (hL : L ≤ 3072) : ∀ (f n : Nat) (i : Int) (s : St), RR P n s → i = 6 * (n : Int) → n + f = 513 → n ≤ 512 → fLoop P L xs 0 265 278 f i s = some () :=
  fLoop_ok hL (RR P) (fun n s hn h => RR_next hn h) (fun n s i kE hn hR i0 i1 hk => ⟨fc0_ok hn hR i0 i1 hk, fc1_ok hn hR i0 i1 hk, fc2_ok hn hR i0 i1 hk, fc3_ok hn hR i0 i1 hk, fc4_ok hn hR i0 i1 hk, fc5_ok hn hR i0 i1 hk, fc6_ok hn hR i0 i1 hk, fc7_ok hn hR i0 i1 hk, fc8_ok hn hR i0 i1 hk, fc9_ok hn hR i0 i1 hk, fc10_ok hn hR i0 i1 hk, fc11_ok hn hR i0 i1 hk, fc12_ok hn hR i0 i1 hk, fc13_ok hn hR i0 i1 hk, fc14_ok hn hR i0 i1 hk, fc15_ok hn hR i0 i1 hk, fc16_ok hn hR i0 i1 hk, fc17_ok hn hR i0 i1 hk, fc18_ok hn hR i0 i1 hk, fc19_ok hn hR i0 i1 hk, fc20_ok hn hR i0 i1 hk, fc21_ok hn hR i0 i1 hk, fc22_ok hn hR i0 i1 hk, fc23_ok hn hR i0 i1 hk, fc24_ok hn hR i0 i1 hk, fc25_ok hn hR i0 i1 hk, fc26_ok hn hR i0 i1 hk, fc27_ok hn hR i0 i1 hk⟩)
theorem fLaw_true : ∀ (L : Nat) (xs : Nat → Int32), L ≤ 3072 → fLaw L xs (fun _ => none) 0 (fun _ _ => 0) = some () := by
  intro L xs hL
  refine fLaw_of fun P σ h sh => ?_
  have R := start_RR h sh
  clear h
  have K := fLoop_true (P := P) (xs := xs) hL
  have e : (0 : Nat) + 513 = 513 := rfl
  generalize 513 = m at *
  exact K m 0 0 σ R (by omega) e (by omega)
theorem whole_start {p : Program} {e : Env} {s : State} {m : MethodId} {below : List Frame} {meth : Method} {c : Code} (l : Launch) (hflags : l.flags = flags0) {b L : Nat} {xs : Nat → Int32} (hL : L ≤ 3072) (C0 : lw_At p s m meth c b L xs) : W p l e room_1 s m #[Value.ref b] below meth c s.heap [] 0 0 (lw_Z below #[Value.ref b] s) (entryFrame m ([Value.ref b] : List Value).toArray 9) := whole_open fLaw_true l hflags hL C0
