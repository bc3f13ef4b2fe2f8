/-! BEGINS. -/
section ZS1
variable {P P' : Shp} {σ σ' σ1 σ2 s μ μ' ν : St} {f t g : Int → Int} {a b c d e i j x y z v N cnt kd o w : Int} {R sp T : List Int} {n m r k L : Nat} {xs : Nat → Int32}
theorem sb_init (hn : 265 ≤ n) : ∃ P' n' σ', fJ4_init_a7421 (al P n 8 0) (n + 1) (nwO σ n 8) (n : Int) (-12) = some (P', n', σ') ∧ SBP P' n' σ' (n : Int) (litT (-12)) ((litT (-12)).length : Int) ∧ BFr P n σ P' n' σ' := by
  have w0 : ∀ o, o ≠ (n : Int) → nwO σ n 8 o = σ o := fun o ho => by funext j; exact if_neg ho
  have w3 : nwO σ n 8 (n : Int) 3 = 0 := by
    unfold nwO
    rw [if_pos rfl, if_neg (by decide)]
  have ok0 : okO (al P n 8 0) 8 (n : Int) = true := okO_i (len := 0) al_s
  have ok1 : okO (al (al P n 8 0) (n + 1) 9 20) 8 (n : Int) = true := okO_i (len := 0) ((al_n (by push_cast; omega)).trans al_s)
  have nn : ((n + 1 : Nat) : Int) = (n : Int) + 1 := by push_cast; rfl
  have S0 : SBP (al (al P n 8 0) (n + 1) 9 20) (n + 1 + 1) (wr (nwA (wr (nwO σ n 8) (n : Int) 1 0) (n + 1) 0) (n : Int) 0 ((n : Int) + 1)) (n : Int) [] (([] : List Int).length : Int) := by
    have za : ∀ j, j ≠ 0 → wr (nwA (wr (nwO σ n 8) (n : Int) 1 0) (n + 1) 0) (n : Int) 0 ((n : Int) + 1) (n : Int) j = wr (nwO σ n 8) (n : Int) 1 0 (n : Int) j := fun j hj => by
      rw [wr_i hj, nwA_o (by push_cast; omega)]
    refine ⟨⟨by omega, by push_cast; omega⟩, ok1, ⟨by rw [wr_s]; omega, by rw [wr_s]; push_cast; omega, by rw [wr_s]; omega⟩, ⟨20, ?_, by simp, ⟨by decide, by decide⟩, fun i i0 i1 => ?_⟩, ?_, ?_, Int.le_refl _, fun i i0 i1 => ?_, fun c hc => ?_⟩
    · rw [wr_s, ← nn]; exact al_s
    · rw [wr_s, wr_o (by omega), ← nn]
      unfold nwA
      rw [if_pos rfl]
      omega
    · rw [za 1 (by omega), wr_s]
    · rw [za 3 (by omega), wr_i (by omega)]; exact w3
    · simp only [List.length_nil] at i1; omega
    · exact absurd hc List.not_mem_nil
  obtain ⟨P2, n2, σ2, e2, S2, F2⟩ := sb_str S0 (k := -12) (by decide) (by simp)
  have S2' : SBP P2 n2 σ2 (n : Int) (litT (-12)) ((litT (-12)).length : Int) := S2
  refine ⟨P2, n2, σ2, ?_, S2', BFr.tr ⟨by omega, fun o ho => ?_, fun o ho => ?_⟩ F2⟩
  · have eS : ∀ {β : Type} (K : Int → Option β), sln (-12) K = K 4 := fun K => by
      unfold sln
      rw [if_pos (by decide)]
      rfl
    have eJ : ∀ {β : Type} (K : Option β), isL (-12) K = K := fun K => if_pos (by decide)
    have eD : ∀ {β : Type} (K : Shp → Nat → Int → St → Option β), mkD (al P n 8 0) (n + 1) (wr (nwO σ n 8) (n : Int) 1 0) 9 20 K = K (al (al P n 8 0) (n + 1) 9 20) (n + 1 + 1) ((n : Int) + 1) (nwA (wr (nwO σ n 8) (n : Int) 1 0) (n + 1) 0) := fun K => by
      unfold mkD
      rw [if_pos (by decide), nn]
      rfl
    have e1 : ¬ ((n : Int) + 1 = -1) := by omega
    have eA : fJ4_append_cf1ce (al (al P n 8 0) (n + 1) 9 20) (n + 1 + 1) (wr (nwA (wr (nwO σ n 8) (n : Int) 1 0) (n + 1) 0) (n : Int) 0 ((n : Int) + 1)) (n : Int) (-12) = some ((n : Int), P2, n2, σ2) := by
      simp (disch := first | omega | assumption | with_reducible rfl | fail) only [fJ4_append_cf1ce, ↓z_lt, ↓z_ge, ↓z_gt, ↓z_le, ↓z_eq, ↓z_ne, ↓z_mx, ↓z_mn, ↓z_dv, ↓z_rm, ↓z_i2l, ↓z_lc, ↓z_sw, ↓z_sf, ↓z_sn, ↓z_bd, ↓z_nt, z_b0, z_b1, z_bi, z_bj, ↓z_gF, ↓z_gR, ↓z_pF, ↓z_pZ, ↓z_pR, ↓z_aI, ↓z_aR, ↓z_sI, ↓z_sZ, ↓z_on, z_cl, ↓reduceIte, Int.reduceEq, Int.reduceNeg, Int.reduceLT, Int.reduceLE, Int.reduceAdd, Int.reduceSub, Int.reduceMul, true_and, and_true, or_true, true_or, eq_self, ok1, ↓e_g e2]
    simp (disch := first | omega | assumption | with_reducible rfl | fail) only [fJ4_init_a7421, fJ5_init_a7421, ↓eS, ↓z_lt, ↓z_ge, ↓z_gt, ↓z_le, ↓z_eq, ↓z_ne, ↓z_mx, ↓z_mn, ↓z_dv, ↓z_rm, ↓z_i2l, ↓z_lc, ↓z_sw, ↓z_sf, ↓z_sn, ↓z_bd, ↓z_nt, z_b0, z_b1, z_bi, z_bj, ↓z_gF, ↓z_gR, ↓z_pF, ↓z_pZ, ↓z_pR, ↓z_aI, ↓z_aR, ↓z_sI, ↓z_sZ, ↓z_on, z_cl, ↓reduceIte, Int.reduceEq, Int.reduceNeg, Int.reduceLT, Int.reduceLE, Int.reduceAdd, Int.reduceSub, Int.reduceMul, true_and, and_true, or_true, true_or, eq_self, iR_t, ↓eJ, ok0, ↓eD, e1, ok1, ↓e_g eA]
  · rw [wr_o (by omega), nwA_o (by push_cast; omega), wr_o (by omega), w0 o (by omega)]
  · rw [al_n (by push_cast; omega), al_n (by omega)]
/-- the tail: the text is read -/
noncomputable def begR (L : Nat) (xs : Nat → Int32) (a0 x4 x13 x89 : Int) (P87 : Shp) (n87 c87 : Nat) (s87 : St) : Option Hr :=
  fL_begins_L418 L xs a0 x4 x13 x89
    (fun P110 n110 c110 s110 =>
      bud c110 <|
      onO P110 7 a0 <| cl (fX7_parse P110 s110 a0 x89) fun (x112, s113) =>
      jne x112 x4
        (
          bud c110 <|
          bz 0 (some ((0 : Int), P110, n110, s113)))
        (
          bud c110 <|
          bz 1 (some ((1 : Int), P110, n110, s113))))
    1000 0 P87 n87 c87 s87
noncomputable def begA (L : Nat) (xs : Nat → Int32) (a0 x4 x13 : Int) (P81 : Shp) (n81 c81 : Nat) (s81 : St) : Option Hr :=
  bud (c81 + 1) <|
  onO P81 8 x13 <| cl (fJ4_append_15ec4 P81 n81 s81 x13 ((-25))) fun (x83, P82, n82, s82) =>
  bud (c81 + 1) <|
  cl (fL_pick L xs P82 s82 45 12) fun x84 =>
  bud (c81 + 2) <|
  onO P82 8 x83 <| cl (fJ4_append_bf812 P82 n82 s82 x83 (3 + x84)) fun (x86, P85, n85, s85) =>
  bud (c81 + 3) <|
  onO P85 8 x86 <| cl (fJ4_append_15ec4 P85 n85 s85 x86 ((-26))) fun (x88, P87, n87, s87) =>
  bud (c81 + 3) <|
  onO P87 8 x13 <| cl (fJ4_length_8abf5 P87 s87 x13) fun x89 =>
  begR L xs a0 x4 x13 x89 P87 n87 (c81 + 3) s87
noncomputable def begB (L : Nat) (xs : Nat → Int32) (a0 x2 x4 x6 x13 : Int) (P12 : Shp) (n12 c12 : Nat) (s12 : St) : Option Hr :=
  fL_begins_L54 L xs a0 x2 x4 x6 x13
    (fun P39 n39 c39 s39 =>
      fL_begins_L188 L xs a0 x2 x4 x6 x13
        (fun P58 n58 c58 s58 =>
          fL_begins_L282 L xs a0 x2 x4 x6 x13
            (fun P81 n81 c81 s81 => begA L xs a0 x4 x13 P81 n81 c81 s81)
            1000 0 P58 n58 c58 s58)
        1000 0 P39 n39 c39 s39)
    1000 0 P12 n12 c12 s12
noncomputable def begC (L : Nat) (xs : Nat → Int32) (P : Shp) (n : Nat) (s : St) (a0 x2 x4 x6 : Int) : Option Hr :=
  bud (0 + 1) <| mkO P n s 8 fun P8 n8 x7 s8 =>
  bud (0 + 3) <|
  cl (fJ4_init_a7421 P8 n8 s8 x7 ((-12))) fun (P9, n9, s9) =>
  bud (0 + 4) <|
  onO P9 8 x7 <| cl (fJ4_append_bf812 P9 n9 s9 x7 x6) fun (x11, P10, n10, s10) =>
  bud (0 + 5) <|
  onO P10 8 x11 <| cl (fJ4_append_15ec4 P10 n10 s10 x11 ((-13))) fun (x13, P12, n12, s12) =>
  begB L xs a0 x2 x4 x6 x13 P12 n12 (0 + 5) s12
theorem beg_eq {a0 : Int} : fL_begins L xs P n s a0 = (bud 0 <|
  cl (fL_pick L xs P s 0 2) fun x1 =>
  bd (3 + x1) fun x2 =>
  bud 0 <|
  cl (fL_pick L xs P s 1 5) fun x3 =>
  bd (1 + x3) fun x4 =>
  bud 0 <|
  cl (fL_pick L xs P s 2 30) fun x5 =>
  bd (10 + x5) fun x6 =>
  begC L xs P n s a0 x2 x4 x6) := rfl
theorem begC_e {P1 P2 P3 : Shp} {n1 n2 n3 : Nat} {x2 x4 x6 : Int} {q : Option Hr} (e1 : fJ4_init_a7421 (al P n 8 0) (n + 1) (nwO σ n 8) (n : Int) (-12) = some (P1, n1, σ1)) (e2 : fJ4_append_bf812 P1 n1 σ1 (n : Int) x6 = some ((n : Int), P2, n2, σ2)) (e3 : fJ4_append_15ec4 P2 n2 σ2 (n : Int) (-13) = some ((n : Int), P3, n3, s)) (o1 : okO P1 8 (n : Int) = true) (o2 : okO P2 8 (n : Int) = true) (e9 : begB L xs 0 x2 x4 x6 (n : Int) P3 n3 5 s = q) : begC L xs P n σ 0 x2 x4 x6 = q := by
  have eM : ∀ (K : Shp → Nat → Int → St → Option Hr), mkO P n σ 8 K = K (al P n 8 0) (n + 1) (n : Int) (nwO σ n 8) := fun K => rfl
  unfold begC
  rw [bud_t (by decide), eM, bud_t (by decide), e1, z_cl]
  dsimp only
  rw [bud_t (by decide), z_on, if_pos o1, e2, z_cl]
  dsimp only
  rw [bud_t (by decide), z_on, if_pos o2, e3, z_cl]
  exact e9
/-- the text, written; then it is read -/
theorem begR_ok {np nd ns : Nat} (H : TL L xs t np nd ns) (hb : ∀ j, -1 ≤ t j ∧ t j ≤ 9999) (hT : T = allT L xs t np nd ns) (S : SBP P n σ z T (T.length : Int)) (hl : (T.length : Int) ≤ 320) (I : INI P σ) (r1 : σ 1 1 = 0) (hm : m ≤ 900) : ∃ P' n' s3, begR L xs 0 (t 2) z (T.length : Int) P n m σ = some (1, P', n', s3) ∧ GR P' s3 3 t (setF t (frF t f00)) (frG f00) 100024 := by
  have Rd0 : RDB P σ T 0 := ⟨I.sh, I.x0, I.r0, r1, fun i i0 i1 => by omega, fun i i0 i1 => by omega⟩
  obtain ⟨P', n', c', σ', F, e, Rd, l1, l2, oo, jj, k9⟩ := bg418 (L := L) (xs := xs) (c3 := t 2) 16 0 1000 P n m σ S Rd0 hl (Int.le_refl _) (by omega) (by omega) (by omega) (by omega)
  have I' : INI P' σ' := I.fr Rd.sh (fun o h1 h2 h3 => oo o h1 h2 h3) jj
  obtain ⟨s3, ep, G⟩ := c_parse H hb hT I' Rd l1 l2
  refine ⟨P', n', s3, ?_, G⟩
  have q0 := sO0 Rd.sh
  have tR : iR (t 2) = true := (H.tv hb).vr 2
  unfold begR
  rw [e]
  simp (disch := first | omega | assumption | with_reducible rfl | fail) only [↓z_lt, ↓z_ge, ↓z_gt, ↓z_le, ↓z_eq, ↓z_ne, ↓z_mx, ↓z_mn, ↓z_dv, ↓z_rm, ↓z_i2l, ↓z_lc, ↓z_sw, ↓z_sf, ↓z_sn, ↓z_bd, ↓z_nt, z_b0, z_b1, z_bi, z_bj, ↓z_gF, ↓z_gR, ↓z_pF, ↓z_pZ, ↓z_pR, ↓z_aI, ↓z_aR, ↓z_sI, ↓z_sZ, ↓z_on, z_cl, ↓reduceIte, Int.reduceEq, Int.reduceNeg, Int.reduceLT, Int.reduceLE, Int.reduceAdd, Int.reduceSub, Int.reduceMul, true_and, and_true, or_true, true_or, eq_self, ↓bud_t, q0, ↓e_g ep, tR]
set_option maxHeartbeats 4000000 in
theorem begB_ok (hL : L ≤ 260) (hd : 3 ≤ d ∧ d ≤ 4) (hw : 10 ≤ w ∧ w ≤ 39) (S : SBP P n σ z (hubT w) ((hubT w).length : Int)) (I : INI P σ) (r1 : σ 1 1 = 0) : ∃ P' n' s3, begB L xs 0 d (1 + pkV L xs 1 5) w z P n 5 σ = some (1, P', n', s3) ∧ GR P' s3 3 (tPl L xs d w) (setF (tPl L xs d w) (frF (tPl L xs d w) f00)) (frG f00) 100024 := by
  have H := tPl_TL (L := L) (xs := xs) hd hw
  have hb := tPl_b9 (L := L) (xs := xs) hd hw
  have v3 := pkV_in (L := L) (xs := xs) (a := 3) (x := 3) (by omega)
  have v1 := pkV_in (L := L) (xs := xs) (a := 1) (x := 5) (by omega)
  have v45 := pkV_in (L := L) (xs := xs) (a := 45) (x := 12) (by omega)
  have hl0 : ((hubT w).length : Int) = 9 := by
    unfold hubT
    rw [app_len, app_len, ll12, ll13]
    unfold numT
    rw [if_neg (by omega)]
    rfl
  have e0 : (0 : Int) = ((0 : Nat) : Int) := rfl
  obtain ⟨P1, n1, c1, σ1, E1, S1, F1, l1, k1⟩ := bg54 (c0 := 0) (c2 := d) (c3 := 1 + pkV L xs 1 5) (c4 := w) (xs := xs) hL (pkV L xs 3 3 + 1).toNat 0 1000 P n 5 σ (hubT w) S (by omega) (by omega) (by omega) (by omega)
  rw [← e0] at E1
  obtain ⟨P2, n2, c2', σ2, E2, S2, F2, l2, k2⟩ := bg188 (c0 := 0) (c2 := d) (c3 := 1 + pkV L xs 1 5) (c4 := w) (xs := xs) hL hd.2 d.toNat 0 1000 P1 n1 c1 σ1 _ S1 (by omega) (by omega) (by omega) (by omega)
  rw [← e0] at E2
  obtain ⟨P3, n3, σ3, E3, S3, F3, l3⟩ := bg282 (c0 := 0) (c2 := d) (c3 := 1 + pkV L xs 1 5) (c4 := w) (xs := xs) hL ⟨by omega, hd.2⟩ hw (1 + pkV L xs 1 5).toNat 0 1000 P2 n2 c2' σ2 _ S2 (by omega) (by omega) (by omega) (by omega) (by omega)
  rw [← e0] at E3
  generalize hT3 : hubT w ++ segL (patT L xs) 0 (pkV L xs 3 3 + 1).toNat ++ segL (devT L xs) 0 d.toNat ++ segL (strT L xs d w) 0 (1 + pkV L xs 1 5).toNat = T3 at S3 l3
  have z3 : (T3.length : Int) ≤ 295 := by omega
  have li := ltAll
  obtain ⟨P4, n4, σ4, e4, S4, F4⟩ := sb_str S3 li.2.2.2.2.2.2.2.2.2.1 (by omega)
  have l4 := app_len (A := T3) (B := litT (-25))
  rw [ll25] at l4
  have ea := pick_v (P := P4) (σ := σ4) (xs := xs) hL (show (0 : Int) ≤ 45 by omega) (show (45 : Int) < 1000 by omega) (x := 12) (by omega) (by omega)
  obtain ⟨P5, n5, σ5, e5, S5, F5⟩ := sb_num (v := 3 + pkV L xs 45 12) S4 (by omega) (by omega) (by push_cast at l4; omega)
  have l5 := app_len (A := T3 ++ litT (-25)) (B := numT (3 + pkV L xs 45 12))
  have q5 := num_len (v := 3 + pkV L xs 45 12) (by omega) (by omega)
  obtain ⟨P6, n6, σ6, e6, S6, F6⟩ := sb_str S5 li.2.2.2.2.2.2.2.2.2.2 (by push_cast at l4; omega)
  have l6 := app_len (A := T3 ++ litT (-25) ++ numT (3 + pkV L xs 45 12)) (B := litT (-26))
  rw [ll26] at l6
  generalize hT6 : T3 ++ litT (-25) ++ numT (3 + pkV L xs 45 12) ++ litT (-26) = T6 at S6 l6
  have z6 : (T6.length : Int) ≤ 320 := by push_cast at l4 l6; omega
  have hT : T6 = allT L xs (tPl L xs d w) (pkV L xs 3 3 + 1).toNat d.toNat (1 + pkV L xs 1 5).toNat := by
    rw [← hT6, ← hT3]
    unfold allT alaT
    rw [show tPl L xs d w 3 = w from rfl, show ((d.toNat : Nat) : Int) = d by omega]
    simp only [List.append_assoc]
  have FF : BFr P n σ P6 n6 σ6 := ((((F1.tr F2).tr F3).tr F4).tr F5).tr F6
  have I6 : INI P6 σ6 := I.fr (I.sh.fr FF.2.2) (fun o h1 _ _ => FF.2.1 o h1) (fun j _ => by rw [FF.2.1 1 (by omega)])
  obtain ⟨P9, n9, s9, e9, G9⟩ := begR_ok (m := c2' + 9 * (1 + pkV L xs 1 5).toNat + 3) H hb hT S6 z6 I6 (by rw [FF.2.1 1 (by omega)]; exact r1) (by omega)
  rw [show tPl L xs d w 2 = 1 + pkV L xs 1 5 from rfl] at e9
  refine ⟨P9, n9, s9, ?_, G9⟩
  have o3 := S3.oz
  have o4 := S4.oz
  have o5 := S5.oz
  have o6 := S6.oz
  have eL := sb_len S6
  unfold begB
  rw [E1, E2, E3]
  unfold begA
  simp (disch := first | with_reducible rfl | assumption | omega | fail) only [↓z_lt, ↓z_ge, ↓z_gt, ↓z_le, ↓z_eq, ↓z_ne, ↓z_mx, ↓z_mn, ↓z_dv, ↓z_rm, ↓z_i2l, ↓z_lc, ↓z_sw, ↓z_sf, ↓z_sn, ↓z_bd, ↓z_nt, z_b0, z_b1, z_bi, z_bj, ↓z_gF, ↓z_gR, ↓z_pF, ↓z_pZ, ↓z_pR, ↓z_aI, ↓z_aR, ↓z_sI, ↓z_sZ, ↓z_on, z_cl, ↓reduceIte, Int.reduceEq, Int.reduceNeg, Int.reduceLT, Int.reduceLE, Int.reduceAdd, Int.reduceSub, Int.reduceMul, true_and, and_true, or_true, true_or, eq_self, ↓bud_t, ↓e_g e4, ↓e_g ea, ↓e_g e5, ↓e_g e6, ↓e_g eL, o3, o4, o5, o6]
  exact e9
theorem begins_ok (hL : L ≤ 260) (hn : n = 265) (I : INI P σ) (r1 : σ 1 1 = 0) : ∃ P' n' s3 d w, (3 ≤ d ∧ d ≤ 4) ∧ (10 ≤ w ∧ w ≤ 39) ∧ fL_begins L xs P n σ 0 = some (1, P', n', s3) ∧ GR P' s3 3 (tPl L xs d w) (setF (tPl L xs d w) (frF (tPl L xs d w) f00)) (frG f00) 100024 := by
  have va := pkV_in (L := L) (xs := xs) (a := 0) (x := 2) (by omega)
  have vb := pkV_in (L := L) (xs := xs) (a := 1) (x := 5) (by omega)
  have vc := pkV_in (L := L) (xs := xs) (a := 2) (x := 30) (by omega)
  have ea := pick_v (P := P) (σ := σ) (xs := xs) hL (show (0 : Int) ≤ 0 by omega) (show (0 : Int) < 1000 by omega) (x := 2) (by omega) (by omega)
  have eb := pick_v (P := P) (σ := σ) (xs := xs) hL (show (0 : Int) ≤ 1 by omega) (show (1 : Int) < 1000 by omega) (x := 5) (by omega) (by omega)
  have ec := pick_v (P := P) (σ := σ) (xs := xs) hL (show (0 : Int) ≤ 2 by omega) (show (2 : Int) < 1000 by omega) (x := 30) (by omega) (by omega)
  have li := ltAll
  obtain ⟨P1, n1, σ1, e1, S1, F1⟩ := sb_init (P := P) (σ := σ) (n := n) (by omega)
  have l1 : ((litT (-12)).length : Int) = 4 := by rw [ll12]; rfl
  obtain ⟨P2, n2, σ2, e2, S2, F2⟩ := sb_num (v := 10 + pkV L xs 2 30) S1 (by omega) (by omega) (by omega)
  have l2 := app_len (A := litT (-12)) (B := numT (10 + pkV L xs 2 30))
  have q2 := num_len (v := 10 + pkV L xs 2 30) (by omega) (by omega)
  obtain ⟨P3, n3, σ3, e3, S3, F3⟩ := sb_str S2 li.2.1 (by omega)
  have hT : litT (-12) ++ numT (10 + pkV L xs 2 30) ++ litT (-13) = hubT (10 + pkV L xs 2 30) := by unfold hubT; rw [List.append_assoc]
  rw [hT] at S3
  have FF : BFr P n σ P3 n3 σ3 := (F1.tr F2).tr F3
  have I3 : INI P3 σ3 := I.fr (I.sh.fr FF.2.2) (fun o h1 _ _ => FF.2.1 o h1) (fun j _ => by rw [FF.2.1 1 (by omega)])
  obtain ⟨P9, n9, s9, e9, G9⟩ := begB_ok (d := 3 + pkV L xs 0 2) (w := 10 + pkV L xs 2 30) (xs := xs) hL ⟨by omega, by omega⟩ ⟨by omega, by omega⟩ S3 I3 (by rw [FF.2.1 1 (by omega)]; exact r1)
  refine ⟨P9, n9, s9, _, _, ⟨by omega, by omega⟩, ⟨by omega, by omega⟩, ?_, G9⟩
  have o1 := S1.oz
  have o2 := S2.oz
  rw [beg_eq, bud_t (by decide), ea, z_cl, z_bd, bud_t (by decide), eb, z_cl, z_bd, bud_t (by decide), ec, z_cl, z_bd]
  exact begC_e e1 e2 e3 o1 o2 e9
end ZS1
