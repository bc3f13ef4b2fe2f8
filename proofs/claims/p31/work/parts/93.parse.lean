/-! THE READER reads it; the plan. -/
def tPl (L : Nat) (xs : Nat → Int32) (nd w : Int) (j : Int) : Int :=
  if j = 0 then pkV L xs 3 3 + 1 else if j = 1 then nd else if j = 2 then 1 + pkV L xs 1 5 else if j = 3 then w else if j = 4 then 5 else if j = 5 then 3 + pkV L xs 45 12 else if j = 6 then 40
  else if 7 ≤ j ∧ j < 55 then (if (j - 7) % 8 = 0 then 1 + pkV L xs (4 + (j - 7) / 8) 9 else if (j - 7) % 8 = 1 then 5 + pkV L xs (7 + (j - 7) / 8) 20 else if (j - 7) % 8 = 2 then pkV L xs (10 + (j - 7) / 8) 3 + 1 else pkV L xs (13 + 3 * ((j - 7) / 8) + ((j - 7) % 8 - 3)) 4)
  else if 55 ≤ j ∧ j < 63 then j - 55
  else if 63 ≤ j ∧ j < 71 then (if 0 < j - 63 ∧ 0 < pkV L xs (22 + (j - 63)) 3 then pkV L xs (26 + (j - 63)) (j - 63) else -1)
  else if 71 ≤ j ∧ j < 107 then (if (j - 71) % 3 = 0 then pkV L xs (30 + (j - 71) / 3) nd else if (j - 71) % 3 = 1 then 2 + pkV L xs (35 + (j - 71) / 3) (w - 1) else 1 + pkV L xs (40 + (j - 71) / 3) 60)
  else 0
section ZR8
variable {P : Shp} {σ σ' σ1 σ2 s μ μ' ν : St} {f t g : Int → Int} {a b c d e i j x y z v N cnt kd o w : Int} {R sp T : List Int} {n m r k L : Nat} {xs : Nat → Int32}
theorem tPl_a (h : 7 ≤ j ∧ j < 55) : tPl L xs d w j = (if (j - 7) % 8 = 0 then 1 + pkV L xs (4 + (j - 7) / 8) 9 else if (j - 7) % 8 = 1 then 5 + pkV L xs (7 + (j - 7) / 8) 20 else if (j - 7) % 8 = 2 then pkV L xs (10 + (j - 7) / 8) 3 + 1 else pkV L xs (13 + 3 * ((j - 7) / 8) + ((j - 7) % 8 - 3)) 4) := by
  unfold tPl
  rw [if_neg (by omega), if_neg (by omega), if_neg (by omega), if_neg (by omega), if_neg (by omega), if_neg (by omega), if_neg (by omega), if_pos h]
theorem tPl_b (h : 55 ≤ j ∧ j < 63) : tPl L xs d w j = j - 55 := by
  unfold tPl
  rw [if_neg (by omega), if_neg (by omega), if_neg (by omega), if_neg (by omega), if_neg (by omega), if_neg (by omega), if_neg (by omega), if_neg (by omega), if_pos h]
theorem tPl_c (h : 63 ≤ j ∧ j < 71) : tPl L xs d w j = (if 0 < j - 63 ∧ 0 < pkV L xs (22 + (j - 63)) 3 then pkV L xs (26 + (j - 63)) (j - 63) else -1) := by
  unfold tPl
  rw [if_neg (by omega), if_neg (by omega), if_neg (by omega), if_neg (by omega), if_neg (by omega), if_neg (by omega), if_neg (by omega), if_neg (by omega), if_neg (by omega), if_pos h]
theorem tPl_d (h : 71 ≤ j ∧ j < 107) : tPl L xs d w j = (if (j - 71) % 3 = 0 then pkV L xs (30 + (j - 71) / 3) d else if (j - 71) % 3 = 1 then 2 + pkV L xs (35 + (j - 71) / 3) (w - 1) else 1 + pkV L xs (40 + (j - 71) / 3) 60) := by
  unfold tPl
  rw [if_neg (by omega), if_neg (by omega), if_neg (by omega), if_neg (by omega), if_neg (by omega), if_neg (by omega), if_neg (by omega), if_neg (by omega), if_neg (by omega), if_neg (by omega), if_pos h]
theorem tPl_TL (hd : 3 ≤ d ∧ d ≤ 4) (hw : 10 ≤ w ∧ w ≤ 39) : TL L xs (tPl L xs d w) (pkV L xs 3 3 + 1).toNat d.toNat (1 + pkV L xs 1 5).toNat := by
  have v3 := pkV_in (L := L) (xs := xs) (a := 3) (x := 3) (by omega)
  have v1 := pkV_in (L := L) (xs := xs) (a := 1) (x := 5) (by omega)
  have d0 : ((d.toNat : Nat) : Int) = d := by omega
  refine ⟨?_, ?_, ?_, rfl, rfl, hw, by omega, by omega, by omega, rfl, fun k hk => ?_, fun k hk => ?_, fun k hk => ?_, fun k hk j j0 j1 => ?_, fun i i0 i1 => ?_, fun k hk => ?_, fun k hk => ?_, fun k hk => ?_, fun k hk => ?_⟩
  · show pkV L xs 3 3 + 1 = _; omega
  · show d = _; omega
  · show 1 + pkV L xs 1 5 = _; omega
  · rw [tPl_a (by omega), if_pos (by omega), show (7 + 8 * (k : Int) - 7) / 8 = (k : Int) by omega]
  · rw [tPl_a (by omega), if_neg (by omega), if_pos (by omega), show (7 + 8 * (k : Int) + 1 - 7) / 8 = (k : Int) by omega]
  · rw [tPl_a (by omega), if_neg (by omega), if_neg (by omega), if_pos (by omega), show (7 + 8 * (k : Int) + 2 - 7) / 8 = (k : Int) by omega]
  · rw [tPl_a (by omega), if_neg (by omega), if_neg (by omega), if_neg (by omega), show (7 + 8 * (k : Int) + 3 + j - 7) / 8 = (k : Int) by omega, show (7 + 8 * (k : Int) + 3 + j - 7) % 8 - 3 = j by omega]
  · rw [tPl_b (by omega)]; omega
  · rw [tPl_c (by omega), show 63 + (k : Int) - 63 = (k : Int) by omega]
  · rw [tPl_d (by omega), if_pos (by omega), show (71 + 3 * (k : Int) - 71) / 3 = (k : Int) by omega, d0]
  · rw [tPl_d (by omega), if_neg (by omega), if_pos (by omega), show (71 + 3 * (k : Int) + 1 - 71) / 3 = (k : Int) by omega]; rfl
  · rw [tPl_d (by omega), if_neg (by omega), if_neg (by omega), show (71 + 3 * (k : Int) + 2 - 71) / 3 = (k : Int) by omega]
theorem tPl_b9 (hd : 3 ≤ d ∧ d ≤ 4) (hw : 10 ≤ w ∧ w ≤ 39) (j : Int) : -1 ≤ tPl L xs d w j ∧ tPl L xs d w j ≤ 9999 := by
  have p : ∀ a x, 1 ≤ x → 0 ≤ pkV L xs a x ∧ pkV L xs a x < x := fun a x hx => pkV_in hx
  by_cases c1 : 7 ≤ j ∧ j < 55
  · rw [tPl_a c1]
    have q1 := p (4 + (j - 7) / 8) 9 (by omega)
    have q2 := p (7 + (j - 7) / 8) 20 (by omega)
    have q3 := p (10 + (j - 7) / 8) 3 (by omega)
    have q4 := p (13 + 3 * ((j - 7) / 8) + ((j - 7) % 8 - 3)) 4 (by omega)
    repeat' split
    all_goals omega
  · by_cases c2 : 55 ≤ j ∧ j < 63
    · rw [tPl_b c2]; omega
    · by_cases c3 : 63 ≤ j ∧ j < 71
      · rw [tPl_c c3]
        by_cases h : 0 < j - 63 ∧ 0 < pkV L xs (22 + (j - 63)) 3
        · rw [if_pos h]
          have q1 := p (26 + (j - 63)) (j - 63) (by omega)
          omega
        · rw [if_neg h]; omega
      · by_cases c4 : 71 ≤ j ∧ j < 107
        · rw [tPl_d c4]
          have q1 := p (30 + (j - 71) / 3) d (by omega)
          have q2 := p (35 + (j - 71) / 3) (w - 1) (by omega)
          have q3 := p (40 + (j - 71) / 3) 60 (by omega)
          repeat' split
          all_goals omega
        · unfold tPl
          have q1 := p 3 3 (by omega)
          have q2 := p 1 5 (by omega)
          have q3 := p 45 12 (by omega)
          repeat' split
          all_goals omega
theorem TL.tv {np nd ns : Nat} (H : TL L xs t np nd ns) (hb : ∀ j, -1 ≤ t j ∧ t j ≤ 9999) : TV t := by
  have p : ∀ a x, 1 ≤ x → 0 ≤ pkV L xs a x ∧ pkV L xs a x < x := fun a x hx => pkV_in hx
  have l0 := H.l0
  have l1 := H.l1
  have l2 := H.l2
  have w3 := H.w3
  refine ⟨hb, by rw [H.t0]; omega, by rw [H.t1]; omega, by rw [H.t2]; omega, by rw [H.t4]; omega, fun i i0 i1 => ?_, fun i i0 i1 => ?_, fun i i0 i1 => ?_, fun i i0 i1 => ?_, fun i i0 i1 => ?_, fun i i0 i1 => ?_, fun i i0 i1 => ?_⟩
  · rw [H.t0] at i1
    have q := H.pe i.toNat (by omega)
    have := p (10 + ((i.toNat : Nat) : Int)) 3 (by omega)
    rw [show ((i.toNat : Nat) : Int) = i by omega] at q this
    omega
  · rw [H.t1] at i1 ⊢
    have q := H.he i.toNat (by omega)
    rw [show ((i.toNat : Nat) : Int) = i by omega] at q
    rw [q]
    by_cases h : 0 < i ∧ 0 < pkV L xs (22 + i) 3
    · rw [if_pos h]
      have := p (26 + i) i (by omega)
      omega
    · rw [if_neg h]; omega
  · rw [H.t2] at i1
    rw [H.t1]
    have q := H.ho i.toNat (by omega)
    have := p (30 + ((i.toNat : Nat) : Int)) (nd : Int) (by omega)
    rw [show ((i.toNat : Nat) : Int) = i by omega] at q this
    omega
  · rw [H.t2] at i1
    have q := H.ra i.toNat (by omega)
    have := p (35 + ((i.toNat : Nat) : Int)) (t 3 - 1) (by omega)
    rw [show ((i.toNat : Nat) : Int) = i by omega] at q this
    omega
  · rw [H.t2] at i1
    have q := H.pa i.toNat (by omega)
    have := p (40 + ((i.toNat : Nat) : Int)) 60 (by omega)
    rw [show ((i.toNat : Nat) : Int) = i by omega] at q this
    omega
  · rw [H.t0] at i1
    have q := H.pi i.toNat (by omega)
    have := p (7 + ((i.toNat : Nat) : Int)) 20 (by omega)
    rw [show ((i.toNat : Nat) : Int) = i by omega] at q this
    omega
  · rw [H.t0] at i1
    have q := H.pw i.toNat (by omega)
    have := p (4 + ((i.toNat : Nat) : Int)) 9 (by omega)
    rw [show ((i.toNat : Nat) : Int) = i by omega] at q this
    omega
theorem TL.pt {np nd ns : Nat} (H : TL L xs t np nd ns) : PT t := by
  have p : ∀ a x, 1 ≤ x → 0 ≤ pkV L xs a x ∧ pkV L xs a x < x := fun a x hx => pkV_in hx
  have l1 := H.l1
  have l2 := H.l2
  have w3 := H.w3
  refine ⟨H.t6, fun i i0 i1 => ?_, fun i i0 i1 => ?_, by rw [H.t2]; omega, by rw [H.t1, H.t4]; omega, by rw [H.t1]; omega⟩
  · rw [H.t2] at i1
    have q := H.ra i.toNat (by omega)
    have := p (35 + ((i.toNat : Nat) : Int)) (t 3 - 1) (by omega)
    rw [show ((i.toNat : Nat) : Int) = i by omega] at q this
    omega
  · rw [H.t2] at i1
    have q := H.pa i.toNat (by omega)
    have := p (40 + ((i.toNat : Nat) : Int)) 60 (by omega)
    rw [show ((i.toNat : Nat) : Int) = i by omega] at q this
    omega
def allT (L : Nat) (xs : Nat → Int32) (t : Int → Int) (np nd ns : Nat) : List Int := hubT (t 3) ++ (segL (patT L xs) 0 np ++ (segL (devT L xs) 0 nd ++ (segL (strT L xs (nd : Int) (t 3)) 0 ns ++ alaT L xs)))
theorem c_clr (sh : ShpIs P 279 PL) : fX4_clear P s 3 = some (wr (wr (wr (wr (wr (wr (wr s 3 0 1) 3 1 1) 3 2 10) 3 3 5) 3 4 0) 3 5 0) 3 6 0) := by
  simp (disch := first | omega | assumption | with_reducible rfl | fail) only [fX4_clear, ↓z_lt, ↓z_ge, ↓z_gt, ↓z_le, ↓z_eq, ↓z_ne, ↓z_mx, ↓z_mn, ↓z_dv, ↓z_rm, ↓z_i2l, ↓z_lc, ↓z_sw, ↓z_sf, ↓z_sn, ↓z_bd, ↓z_nt, z_b0, z_b1, z_bi, z_bj, ↓z_gF, ↓z_gR, ↓z_pF, ↓z_pZ, ↓z_pR, ↓z_aI, ↓z_aR, ↓z_sI, ↓z_sZ, ↓z_on, z_cl, ↓reduceIte, Int.reduceEq, Int.reduceNeg, Int.reduceLT, Int.reduceLE, Int.reduceAdd, Int.reduceSub, Int.reduceMul, true_and, and_true, or_true, true_or, eq_self, sO3 sh]
theorem rd_read {np nd ns : Nat} (H : TL L xs t np nd ns) (hT : T = allT L xs t np nd ns) (Rd : RDB P σ T a) (l1 : (T.length : Int) ≤ a) (l2 : a ≤ 600) (p9 : σ 1 9 = 3) (n11 : σ 1 11 = 13) (n12 : σ 1 12 = 14) (n13 : σ 1 13 = 15) (pp : PP σ 3) :
    ∃ σ', fX5_read P σ 1 (T.length : Int) = some (1, σ') ∧ PR σ' 3 t ∧ (∀ o, o ≠ 1 → (o < 3 ∨ 15 < o) → σ' o = σ o) ∧ (∀ j, (j < 2 ∨ 8 < j) → j ≠ 10 → σ' 1 j = σ 1 j) := by
  have sh := Rd.sh
  have w3 := H.w3
  generalize hN : (T.length : Int) = N at *
  have N0 : 0 ≤ N := by omega
  generalize hs6 : wr (wr (wr σ 1 2 N) 1 3 0) 1 10 0 = s6
  have s6o : ∀ o, o ≠ 1 → s6 o = σ o := fun o ho => by rw [← hs6, wr_o ho, wr_o ho, wr_o ho]
  have s6j : ∀ j, j ≠ 2 → j ≠ 3 → j ≠ 10 → s6 1 j = σ 1 j := fun j h2 h3 h10 => by rw [← hs6, wr_i h10, wr_i h3, wr_i h2]
  have s62 : s6 1 2 = N := by rw [← hs6, wr_i (by omega), wr_i (by omega), wr_s]
  have s63 : s6 1 3 = 0 := by rw [← hs6, wr_i (by omega), wr_s]
  have s610 : s6 1 10 = 0 := by rw [← hs6, wr_s]
  have eC := c_clr (s := s6) sh
  generalize hcl : wr (wr (wr (wr (wr (wr (wr s6 3 0 1) 3 1 1) 3 2 10) 3 3 5) 3 4 0) 3 5 0) 3 6 0 = cl9 at eC
  have co : ∀ o, o ≠ 3 → cl9 o = s6 o := fun o ho => by rw [← hcl]; simp only [wr_o ho]
  have c3 : ∀ j, 7 ≤ j → cl9 3 j = σ 3 j := fun j hj => by rw [← hcl]; simp (disch := omega) only [wr_i]; rw [s6o 3 (by omega)]
  have c34 : cl9 3 4 = 0 := by rw [← hcl]; simp (disch := omega) only [wr_i, wr_s]
  have c35 : cl9 3 5 = 0 := by rw [← hcl]; simp (disch := omega) only [wr_i, wr_s]
  have c36 : cl9 3 6 = 0 := by rw [← hcl]; exact wr_s
  clear hcl
  have c1 : ∀ j, cl9 1 j = s6 1 j := fun j => by rw [co 1 (by omega)]
  have RB8 : RB P cl9 (σ 2) N := ⟨sh, by rw [c1, s6j 0 (by omega) (by omega) (by omega)]; exact Rd.r0, by rw [c1]; exact s62, ⟨N0, by omega⟩, by rw [co 2 (by omega), s6o 2 (by omega)], fun i i0 i1 => Rd.by2 i i0 (by omega)⟩
  obtain ⟨s9, e9, A⟩ := c_advance RB8 (by rw [c1, s63]; exact Int.le_refl _) (by rw [c1, s63]; exact N0)
  rw [show cl9 1 3 = 0 by rw [c1, s63]] at A
  have C9 : CT P s9 (σ 2) N 0 := ⟨⟨sh, by rw [A.jj 0 (by omega)]; exact RB8.r0, by rw [A.jj 2 (by omega)]; exact RB8.r2, RB8.hN, by rw [A.oo 2 (by omega)]; exact RB8.by', RB8.fr⟩, Int.le_refl _, N0, A.ss, A.ee, A.tt, A.vv⟩
  have j9 : ∀ j, (j < 2 ∨ 6 < j) → j ≠ 10 → s9 1 j = σ 1 j := fun j hj h10 => by rw [A.jj j (by omega), c1, s6j j (by omega) (by omega) h10]
  have L9 : LPp P s9 (σ 2) N 0 T cl9 := ⟨C9, ⟨Int.le_refl _, by omega, fun i i0 i1 => by rw [Int.zero_add]; exact Rd.by' i i0 (by omega) i1⟩, by rw [j9 9 (by omega) (by omega)]; exact p9, by rw [j9 11 (by omega) (by omega)]; exact n11, by rw [j9 12 (by omega) (by omega)]; exact n12, by rw [j9 13 (by omega) (by omega)]; exact n13, A.oo⟩
  rw [hT] at L9
  unfold allT at L9
  obtain ⟨σh, eh', eh, Lh, jh⟩ := rd_header L9 (by omega) (by omega)
  have Mh : PQ (wr (wr cl9 3 0 (t 3)) 3 1 5) t 0 0 0 := by
    have q : ∀ j, 2 ≤ j → wr (wr cl9 3 0 (t 3)) 3 1 5 3 j = cl9 3 j := fun j hj => by rw [wr_i (by omega), wr_i (by omega)]
    refine ⟨⟨by rw [q 7 (by omega), c3 7 (by omega)]; exact pp.r7, by rw [q 8 (by omega), c3 8 (by omega)]; exact pp.r8, by rw [q 9 (by omega), c3 9 (by omega)]; exact pp.r9, by rw [q 10 (by omega), c3 10 (by omega)]; exact pp.r10, by rw [q 11 (by omega), c3 11 (by omega)]; exact pp.r11, by rw [q 12 (by omega), c3 12 (by omega)]; exact pp.r12, by rw [q 13 (by omega), c3 13 (by omega)]; exact pp.r13, by rw [q 14 (by omega), c3 14 (by omega)]; exact pp.r14, by rw [q 15 (by omega), c3 15 (by omega)]; exact pp.r15⟩, by rw [q 4 (by omega)]; exact c34, by rw [q 5 (by omega)]; exact c35, by rw [q 6 (by omega)]; exact c36, by rw [wr_i (by omega), wr_s], wr_s, ?_, ?_, ?_, ?_, ?_, ?_, ?_⟩
    all_goals (intro i i0 i1; omega)
  have h10 : σh 1 10 = 0 := by rw [jh 10 (by omega), A.jj 10 (by omega), c1]; exact s610
  obtain ⟨σ', e', μ', E, L', M', q2, q3, j', o'⟩ := lp_all H Lh Mh h10 (fun s18 =>
          onO P 5 1 <| cl (fX5_fault P s18 1 1) fun (x20, s21) =>
          bz x20 (some ((x20 : Int), s21))) (fun s22 =>
          bz 1 (some ((1 : Int), s22))) (fun s23 =>
          bz 0 (some ((0 : Int), s23)))
  have PRm : PR μ' 3 t := M'.pr H q2 q3
  have PRs : PR σ' 3 t := PRm.ag fun o h1 h2 => L'.mm o (by omega)
  refine ⟨σ', ?_, PRs, fun o h1 ho => ?_, fun j hj h => ?_⟩
  · have fl := Rd.fl
    have k1 : ¬ (a < N) := by omega
    have k2 : (if 0 < N then N else 0) = N := by split <;> omega
    have aR : iR a = true := iR_t (by omega) (by omega)
    have nR : iR N = true := iR_t (by omega) (by omega)
    have s69 : s6 1 9 = 3 := by rw [s6j 9 (by omega) (by omega) (by omega)]; exact p9
    have eX : fX5_read P σ 1 N = fX5_read_L48 P 1 (fun s18 =>
          onO P 5 1 <| cl (fX5_fault P s18 1 1) fun (x20, s21) =>
          bz x20 (some ((x20 : Int), s21))) (fun s22 =>
          bz 1 (some ((1 : Int), s22))) (fun s23 =>
          bz 0 (some ((0 : Int), s23))) 1000 0 σh := by
      unfold fX5_read
      rw [z_gF, if_pos (sO1 sh), fl, z_mn, if_pos nR, if_pos aR, if_neg k1, z_mx, if_pos (show iR 0 = true from rfl), if_pos nR, k2, z_pF, if_pos (sO1 sh), z_pF, if_pos (sO1 sh), z_pZ, if_pos (sO1 sh), if_pos (Or.inl rfl), hs6]
      simp (disch := first | omega | assumption | (simp (disch := omega) only [ s69 ]; done) | fail) only [↓z_lt, ↓z_ge, ↓z_gt, ↓z_le, ↓z_eq, ↓z_ne, ↓z_mx, ↓z_mn, ↓z_dv, ↓z_rm, ↓z_i2l, ↓z_lc, ↓z_sw, ↓z_sf, ↓z_sn, ↓z_bd, ↓z_nt, z_b0, z_b1, z_bi, z_bj, ↓z_gF, ↓z_gR, ↓z_pF, ↓z_pZ, ↓z_pR, ↓z_aI, ↓z_aR, ↓z_sI, ↓z_sZ, ↓z_on, z_cl, ↓reduceIte, Int.reduceEq, Int.reduceNeg, Int.reduceLT, Int.reduceLE, Int.reduceAdd, Int.reduceSub, Int.reduceMul, true_and, and_true, or_true, true_or, eq_self, iR_t, sO1 sh, sO3 sh, s69, ↓e_g eC, ↓e_g e9, ↓e_g eh]
    rw [eX, E]
    rfl
  · rw [L'.mm o h1, o' o ho, wr_o (by omega), wr_o (by omega), co o (by omega), s6o o h1]
  · by_cases w : j < 3 ∨ 6 < j
    · rw [j' j w h, jh j w, j9 j (by omega) h]
    · omega
end ZR8
