/-! THE LOOP OF THE LAW out of its cases. -/
theorem jsf_all {α : Type} {x : Int} {d : Option α} {r : α} (hd : d = some r) : ∀ (Ls : List (Int × Option α)), (∀ q ∈ Ls, q.2 = some r) → jsf x Ls d = some r
  | [], _ => hd
  | (v, k) :: Ls, h => by
    unfold jsf
    by_cases hx : x = v
    · rw [if_pos hx]; exact h (v, k) List.mem_cons_self
    · rw [if_neg hx]; exact jsf_all hd Ls fun q hq => h q (List.mem_cons_of_mem _ hq)
theorem inR_toInt (z : Int32) : inR z.toInt := ⟨Int32.le_toInt z, Int32.toInt_lt z⟩
/-- R n σ: the relation after n calls; each case keeps it -/
theorem fLoop_ok {P : Shp} {L : Nat} {xs : Nat → Int32} {x m o : Int} (hL : L ≤ 3072) (R : Nat → St → Prop) (hskip : ∀ (n : Nat) (s : St), n < 512 → R n s → R (n + 1) s)
    (hc : ∀ (n : Nat) (s : St) (i : Int) (kE : St → Option Unit), n < 512 → R n s → 0 ≤ i → i + 6 ≤ L → (∀ s' : St, R (n + 1) s' → kE s' = some ()) → fc_0 P L xs s x m o i kE = some () ∧ fc_1 P L xs s x m o i kE = some () ∧ fc_2 P L xs s x m o i kE = some () ∧ fc_3 P L xs s x m o i kE = some () ∧ fc_4 P L xs s x m o i kE = some () ∧ fc_5 P L xs s x m o i kE = some () ∧ fc_6 P L xs s x m o i kE = some () ∧ fc_7 P L xs s x m o i kE = some () ∧ fc_8 P L xs s x m o i kE = some () ∧ fc_9 P L xs s x m o i kE = some () ∧ fc_10 P L xs s x m o i kE = some () ∧ fc_11 P L xs s x m o i kE = some () ∧ fc_12 P L xs s x m o i kE = some () ∧ fc_13 P L xs s x m o i kE = some () ∧ fc_14 P L xs s x m o i kE = some () ∧ fc_15 P L xs s x m o i kE = some () ∧ fc_16 P L xs s x m o i kE = some () ∧ fc_17 P L xs s x m o i kE = some () ∧ fc_18 P L xs s x m o i kE = some () ∧ fc_19 P L xs s x m o i kE = some () ∧ fc_20 P L xs s x m o i kE = some () ∧ fc_21 P L xs s x m o i kE = some () ∧ fc_22 P L xs s x m o i kE = some () ∧ fc_23 P L xs s x m o i kE = some () ∧ fc_24 P L xs s x m o i kE = some () ∧ fc_25 P L xs s x m o i kE = some () ∧ fc_26 P L xs s x m o i kE = some () ∧ fc_27 P L xs s x m o i kE = some ()) :
    ∀ (f n : Nat) (i : Int) (s : St), R n s → i = 6 * (n : Int) → n + f = 513 → n ≤ 512 → fLoop P L xs x m o f i s = some () := by
  intro f
  induction f with
  | zero =>
    intro n i s hR hi hf hn
    exact absurd hn (by omega)
  | succ f ih =>
    intro n i s hR hi hf hn5
    unfold fLoop
    rw [e_gt ⟨⟨by omega, by omega⟩, ⟨by omega, by omega⟩⟩]
    by_cases h : (L : Int) - 6 < i
    · rw [if_pos h]
    · rw [if_neg h]
      have hn : n < 512 := by omega
      show (if 0 ≤ i ∧ i < (L : Int) then _ else _) = _
      rw [if_pos ⟨by omega, by omega⟩]
      show (if inR _ then _ else _) = _
      have hI : inR (iand (sc xs i) 31) := inR_toInt _
      rw [if_pos hI]
      have hk : ∀ s' : St, R (n + 1) s' → fLoop P L xs x m o f (i + 6) s' = some () := fun s' h' => ih (n + 1) (i + 6) s' h' (by push_cast; omega) (by omega) (by omega)
      obtain ⟨h0, h1, h2, h3, h4, h5, h6, h7, h8, h9, h10, h11, h12, h13, h14, h15, h16, h17, h18, h19, h20, h21, h22, h23, h24, h25, h26, h27⟩ := hc n s i (fLoop P L xs x m o f (i + 6)) hn hR (by omega) (by omega) hk
      refine jsf_all (hk s (hskip n s hn hR)) _ ?_
      exact List.forall_mem_cons.mpr ⟨h0, List.forall_mem_cons.mpr ⟨h1, List.forall_mem_cons.mpr ⟨h2, List.forall_mem_cons.mpr ⟨h3, List.forall_mem_cons.mpr ⟨h4, List.forall_mem_cons.mpr ⟨h5, List.forall_mem_cons.mpr ⟨h6, List.forall_mem_cons.mpr ⟨h7, List.forall_mem_cons.mpr ⟨h8, List.forall_mem_cons.mpr ⟨h9, List.forall_mem_cons.mpr ⟨h10, List.forall_mem_cons.mpr ⟨h11, List.forall_mem_cons.mpr ⟨h12, List.forall_mem_cons.mpr ⟨h13, List.forall_mem_cons.mpr ⟨h14, List.forall_mem_cons.mpr ⟨h15, List.forall_mem_cons.mpr ⟨h16, List.forall_mem_cons.mpr ⟨h17, List.forall_mem_cons.mpr ⟨h18, List.forall_mem_cons.mpr ⟨h19, List.forall_mem_cons.mpr ⟨h20, List.forall_mem_cons.mpr ⟨h21, List.forall_mem_cons.mpr ⟨h22, List.forall_mem_cons.mpr ⟨h23, List.forall_mem_cons.mpr ⟨h24, List.forall_mem_cons.mpr ⟨h25, List.forall_mem_cons.mpr ⟨h26, List.forall_mem_cons.mpr ⟨h27, fun _ h => absurd h List.not_mem_nil⟩⟩⟩⟩⟩⟩⟩⟩⟩⟩⟩⟩⟩⟩⟩⟩⟩⟩⟩⟩⟩⟩⟩⟩⟩⟩⟩⟩
