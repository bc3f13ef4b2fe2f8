/-! THE START: what the constructors leave, by the kernel. -/
def spC (σ : St) (b : Int) : Bool := decide ((σ b 2 = b + 1) ∧ (σ b 3 = b + 2) ∧ (σ b 4 = b + 3) ∧ (σ b 5 = b + 4) ∧ (σ b 6 = b + 5) ∧ (σ b 7 = b + 6) ∧ (σ b 8 = b + 7) ∧ (σ b 9 = b + 13) ∧ (σ (b + 7) 0 = b + 8) ∧ (σ (b + 7) 1 = b + 9) ∧ (σ (b + 7) 2 = b + 10) ∧ (σ (b + 7) 4 = b + 11) ∧ (σ (b + 7) 5 = b + 12) ∧ (σ (b + 13) 2 = b + 14) ∧ (σ (b + 13) 3 = b + 15) ∧ (σ (b + 13) 4 = b + 16) ∧ (σ (b + 13) 5 = b + 17))
def ppC (σ : St) (p : Int) : Bool := decide ((σ p 7 = p + 1) ∧ (σ p 8 = p + 2) ∧ (σ p 9 = p + 3) ∧ (σ p 10 = p + 4) ∧ (σ p 11 = p + 5) ∧ (σ p 12 = p + 6) ∧ (σ p 13 = p + 7) ∧ (σ p 14 = p + 8) ∧ (σ p 15 = p + 9))
def rnC (σ : St) (a b : Int) (n : Nat) : Bool := (List.range n).all fun i => decide (σ a (i : Int) = b + 18 * (i : Int)) && spC σ (b + 18 * (i : Int))
def scC (σ : St) : Bool := decide ((σ 0 0 = 1 ∧ σ 0 1 = 16 ∧ σ 0 2 = 45 ∧ σ 0 3 = 227 ∧ σ 0 4 = 228) ∧ (σ 16 0 = 17 ∧ σ 16 1 = 27) ∧ (σ 45 0 = 46 ∧ σ 45 1 = 0 ∧ σ 45 2 = 0) ∧ (σ 1 0 = 2 ∧ σ 1 9 = 3 ∧ σ 1 11 = 13 ∧ σ 1 12 = 14 ∧ σ 1 13 = 15 ∧ σ 1 1 = 0))
def chC (σ : St) : Bool := spC σ 27 && ppC σ 3 && rnC σ 46 47 10 && rnC σ 227 229 2 && scC σ
noncomputable def iC0 : Option Hs := fX7_init (al (fun _ => none) 0 7 0) (0 + 1) (nwO (fun _ _ => 0) 0 7) ((0 : Nat) : Int)
set_option maxRecDepth 1000000 in
theorem iC0_chk : (iC0.map fun q => (q.2.1, chC q.2.2, fX7_size q.1 q.2.2 0 1, fX7_weakest q.1 q.2.2 0)) = some (265, true, some 0, some (-1)) := by decide +kernel
section ZS2
variable {P P9 : Shp} {σ σ' s s3 s9 : St} {t f g : Int → Int} {i j k o v x a b : Int} {n n9 kk L : Nat} {xs : Nat → Int32}
theorem spC_of (h : spC σ b = true) : SP σ b := by
  unfold spC at h
  have := of_decide_eq_true h
  exact this
theorem ppC_of (h : ppC σ b = true) : PP σ b := by
  unfold ppC at h
  have := of_decide_eq_true h
  exact this
theorem rnC_of (h : rnC σ a b n = true) (h0 : 0 ≤ i) (h1 : i < (n : Int)) : σ a i = b + 18 * i ∧ SP σ (b + 18 * i) := by
  unfold rnC at h
  have := List.all_eq_true.mp h i.toNat (List.mem_range.mpr (by omega))
  rw [show ((i.toNat : Nat) : Int) = i by omega, Bool.and_eq_true] at this
  exact ⟨of_decide_eq_true this.1, spC_of this.2⟩
theorem ini_ex : ∃ P σ, iC0 = some (P, 265, σ) ∧ INI P σ ∧ σ 1 1 = 0 ∧ σ 45 1 = 0 ∧ fX7_size P σ 0 1 = some 0 ∧ fX7_weakest P σ 0 = some (-1) := by
  have chk := iC0_chk
  cases h : iC0 with
  | none =>
    rw [h] at chk
    cases chk
  | some q =>
    obtain ⟨P, n, σ⟩ := q
    rw [h] at chk
    have c2 := Option.some.inj chk
    simp only [Prod.mk.injEq] at c2
    obtain ⟨hn, hc, hs, hw⟩ := c2
    subst hn
    have hL := gX7_init (Ls := [(7, 0)]) h (ShpC.to (Ls := [] ++ [(7, 0)]) (ShpC.al (P := fun _ => none) (n := 0) ⟨rfl, fun z => rfl⟩) rfl)
    have sh : ShpIs P 279 PL := ShpIs.of (Ms := []) (hL.to (by decide +kernel))
    unfold chC at hc
    simp only [Bool.and_eq_true] at hc
    obtain ⟨⟨⟨⟨h1, h2⟩, h3⟩, h4⟩, h5⟩ := hc
    unfold scC at h5
    obtain ⟨⟨a0, a1, a2, a3, a4⟩, ⟨b0, b1⟩, ⟨c0, c1, c2⟩, ⟨d0, d9, d11, d12, d13, d1⟩⟩ := of_decide_eq_true h5
    exact ⟨P, σ, rfl, ⟨sh, a0, a1, a2, a3, a4, b0, b1, spC_of h1, c0, by omega, fun i i0 i1 => rnC_of h3 i0 (by push_cast; omega), fun i i0 i1 => rnC_of h4 i0 (by push_cast; omega), d0, d9, d11, d12, d13, ppC_of h2⟩, d1, c1, hs, hw⟩
theorem c_undo0 (I : INI P σ) (h : σ 45 1 = 0) : fX7_undo P σ 0 = some (-1, σ) := by
  have x2 := I.x2
  have x1 := I.x1
  have y1 := I.y1
  have e : fX1_takeBack P σ 45 27 = some (0, σ) := by
    simp (disch := first | omega | assumption) only [fX1_takeBack, ↓z_lt, ↓z_ge, ↓z_gt, ↓z_le, ↓z_eq, ↓z_ne, ↓z_mx, ↓z_mn, ↓z_dv, ↓z_rm, ↓z_i2l, ↓z_lc, ↓z_sw, ↓z_sf, ↓z_sn, ↓z_bd, ↓z_nt, z_b0, z_b1, z_bi, z_bj, ↓z_gF, ↓z_gR, ↓z_pF, ↓z_pZ, ↓z_pR, ↓z_aI, ↓z_aR, ↓z_sI, ↓z_sZ, ↓z_on, z_cl, ↓reduceIte, Int.reduceEq, Int.reduceNeg, Int.reduceLT, Int.reduceLE, Int.reduceAdd, Int.reduceSub, Int.reduceMul, true_and, and_true, or_true, true_or, eq_self, iR_t, sO45 I.sh, h]
  simp (disch := first | omega | assumption | (simp (disch := omega) only [ x1, x2, y1 ]; done) | fail) only [fX7_undo, ↓z_lt, ↓z_ge, ↓z_gt, ↓z_le, ↓z_eq, ↓z_ne, ↓z_mx, ↓z_mn, ↓z_dv, ↓z_rm, ↓z_i2l, ↓z_lc, ↓z_sw, ↓z_sf, ↓z_sn, ↓z_bd, ↓z_nt, z_b0, z_b1, z_bi, z_bj, ↓z_gF, ↓z_gR, ↓z_pF, ↓z_pZ, ↓z_pR, ↓z_aI, ↓z_aR, ↓z_sI, ↓z_sZ, ↓z_on, z_cl, ↓reduceIte, Int.reduceEq, Int.reduceNeg, Int.reduceLT, Int.reduceLE, Int.reduceAdd, Int.reduceSub, Int.reduceMul, true_and, and_true, or_true, true_or, eq_self, iR_t, sO0 I.sh, sO16 I.sh, sO45 I.sh, x1, x2, y1, ↓e_g e]
theorem bul_t {α : Type} {K : Option α} {m : Nat} (h : m ≤ 3000) : bul m K = K := if_pos h
/-- no frames: refused -/
theorem refuses_ok (sh : okO P 7 0 = true) : fL_refuses P σ 0 = some (1, σ) := by
  have e : fzX7_frames P σ 0 0 = some (.inr 0) := by
    simp (disch := first | omega | assumption) only [fzX7_frames, ↓z_lt, ↓z_ge, ↓z_gt, ↓z_le, ↓z_eq, ↓z_ne, ↓z_mx, ↓z_mn, ↓z_dv, ↓z_rm, ↓z_i2l, ↓z_lc, ↓z_sw, ↓z_sf, ↓z_sn, ↓z_bd, ↓z_nt, z_b0, z_b1, z_bi, z_bj, ↓z_gF, ↓z_gR, ↓z_pF, ↓z_pZ, ↓z_pR, ↓z_aI, ↓z_aR, ↓z_sI, ↓z_sZ, ↓z_on, z_cl, ↓reduceIte, Int.reduceEq, Int.reduceNeg, Int.reduceLT, Int.reduceLE, Int.reduceAdd, Int.reduceSub, Int.reduceMul, true_and, and_true, or_true, true_or, eq_self, iR_t]
  unfold fL_refuses trc
  rw [z_on, if_pos sh, e]
  rfl
theorem fLaw_true : ∀ (L : Nat) (xs : Nat → Int32), L ≤ 260 → fL_law L xs (fun _ => none) 0 (fun _ _ => 0) = some () := by
  intro L xs hL
  obtain ⟨P, σ, hi, I, r1, h1, hs, hw⟩ := ini_ex
  obtain ⟨P', n', s3, d, w, hd, hw9, eb, G⟩ := begins_ok (xs := xs) hL (n := 265) rfl I r1
  have H := tPl_TL (L := L) (xs := xs) hd hw9
  have TT := H.tv (tPl_b9 hd hw9)
  have J := iv_start H TT
  have hu := c_undo0 I h1
  have sO := sO0 I.sh
  have e44 := law44 (P := P') (p := 3) (n := n') (xs := xs) hL (fun P35 n35 c35 s35 =>
                      bul (c35 + 1) <|
                      cl (fL_refuses P35 s35 0) fun x36 =>
                      if x36.1 = 1 then some () else none)
                    (fun P37 n37 c37 s37 =>
                      none)
                    (fun P38 n38 c38 s38 =>
                      none) H.pt (fun σ f g B G _ => by
      have e := refuses_ok (σ := σ) (sO0 G.cr.sh)
      rw [bul_t (by decide), e]
      rfl) 9 1000 0 s3 _ _ _ rfl (by omega) (by omega) (show (10000 : Int) ≤ 100024 by omega) (by decide) G J
  have eN : fL_law L xs (fun _ => none) 0 (fun _ _ => 0) = (bul (0 + 1) <| bul (0 + 265) <| bul (0 + 265) <|
    (cl iC0 fun (P3, n3, s3) => onO P3 7 0 <| cl (fX7_size P3 s3 0 1) fun x4 =>
      jne x4 0 none (bul (0 + 265) <| onO P3 7 0 <| cl (fX7_weakest P3 s3 0) fun x5 =>
        jne x5 ((-1)) none (bul (0 + 265) <| onO P3 7 0 <| cl (fX7_undo P3 s3 0) fun (x7, s8) =>
          jne x7 ((-1)) none (bul (0 + 1265) <| cl (fL_begins L xs P3 n3 s8 0) fun (x10, P9, n9, s9) =>
            jne x10 0 (fL_law_L44 L xs 0 (fun P35 n35 c35 s35 =>
                      bul (c35 + 1) <|
                      cl (fL_refuses P35 s35 0) fun x36 =>
                      if x36.1 = 1 then some () else none)
                    (fun P37 n37 c37 s37 =>
                      none)
                    (fun P38 n38 c38 s38 =>
                      none) 1000 0 P9 n9 (0 + 1265) s9) none))))) := by
    unfold fL_law
    rw [bul_t (by decide), bul_t (by decide), bul_t (by decide), bul_t (by decide)]
    show (bul (0 + 265) <| cl iC0 fun (P3, n3, s3) => _) = _
    rw [bul_t (by decide), hi]
    rfl
  have r0 : iR 0 = true := rfl
  have r1' : iR 1 = true := rfl
  have rm : iR (-1) = true := rfl
  rw [eN, bul_t (by decide), bul_t (by decide), bul_t (by decide), hi, z_cl]
  dsimp only
  rw [z_on, if_pos sO, hs, z_cl, z_ne, if_pos r0, if_pos r0, if_pos rfl, bul_t (by decide), z_on, if_pos sO, hw, z_cl, z_ne, if_pos rm, if_pos rm, if_pos rfl, bul_t (by decide), z_on, if_pos sO, hu, z_cl]
  dsimp only
  rw [z_ne, if_pos rm, if_pos rm, if_pos rfl, bul_t (by decide), eb, z_cl]
  dsimp only
  rw [z_ne, if_pos r1', if_pos r0, if_neg (by decide)]
  exact e44
theorem whole_start {p : Program} {e : Env} {s : State} {m : MethodId} {below : List Frame} {meth : Method} {c : Code} (l : Launch) (hflags : l.flags = flags0) {b L : Nat} {xs : Nat → Int32} (hL : L ≤ 260) (C0 : lw_At p s m meth c b L xs) : W p l e room_1 s m #[Value.ref b] below meth c s.heap [] 0 0 (lw_Z below #[Value.ref b] s) (entryFrame m ([Value.ref b] : List Value).toArray 5) := whole_open fLaw_true l hflags hL C0
end ZS2
