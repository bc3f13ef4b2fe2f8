/-! THE CLASS'S OTHER READERS. -/
section ZM
variable {P : Shp} {σ σ' : St} {t f f' g : Int → Int} {B : Int} {d k p q kind who m h j c x y i : Int} {n : Nat}
def bt (b : Bool) (k : Int) : Int := if b = true then ishl 1 k else 0
theorem i32_inR (z : Int32) : iR z.toInt = true := iR_t (Int32.le_toInt z) (Int32.toInt_lt z)
theorem ior_R : iR (ior x y) = true := i32_inR _
theorem ior_0 (h : iR x = true) : ior x 0 = x := by
  have h2 := iR_of h
  unfold ior b32
  show (Int32.ofInt x ||| Int32.ofInt 0).toInt = x
  rw [show Int32.ofInt 0 = 0 from rfl, Int32.or_zero]
  exact i32_toInt ⟨h2.1, h2.2⟩
/-- bits of n flags -/
def bitsF (b : Int → Bool) (n : Nat) : Int := forI (fun k a => ior a (bt (b k) k)) n 0
theorem bitsF_R (b : Int → Bool) : ∀ n, iR (bitsF b n) = true
  | 0 => rfl
  | _ + 1 => ior_R
theorem bitsF_ext (b : Int → Bool) (n : Nat) : ∀ k : Nat, bitsF (fun j => b j && decide (j < (n : Int))) (n + k) = bitsF b n
  | 0 => forI_congr fun k a hk => by
    show ior a (bt (b k && decide ((k : Int) < (n : Int))) k) = ior a (bt (b k) k)
    rw [decide_eq_true (by omega), Bool.and_true]
  | k + 1 => by
    show ior (bitsF _ (n + k)) (bt (b ((n + k : Nat) : Int) && decide (((n + k : Nat) : Int) < (n : Int))) ((n + k : Nat) : Int)) = _
    rw [bitsF_ext b n k]
    have : (b ((n + k : Nat) : Int) && decide (((n + k : Nat) : Int) < (n : Int))) = false := by
      rw [decide_eq_false (by push_cast; omega), Bool.and_false]
    rw [this]
    exact ior_0 (bitsF_R b n)
set_option maxRecDepth 100000 in
theorem bits6 : ∀ b0 b1 b2 b3 b4 b5 : Bool, ∀ z : Int, z = ior (ior (ior (ior (ior (ior 0 (bt b0 0)) (bt b1 1)) (bt b2 2)) (bt b3 3)) (bt b4 4)) (bt b5 5) →
    iand (ishr z 0) 1 = (if b0 = true then 1 else 0) ∧ iand (ishr z 1) 1 = (if b1 = true then 1 else 0) ∧ iand (ishr z 2) 1 = (if b2 = true then 1 else 0) ∧ iand (ishr z 3) 1 = (if b3 = true then 1 else 0) ∧ iand (ishr z 4) 1 = (if b4 = true then 1 else 0) ∧ iand (ishr z 5) 1 = (if b5 = true then 1 else 0) := by
  intro b0 b1 b2 b3 b4 b5 z e
  subst e
  revert b0 b1 b2 b3 b4 b5
  decide +kernel
theorem bits_at (b : Int → Bool) (hn : n ≤ 6) (h0 : 0 ≤ k) (h1 : k < (n : Int)) : iand (ishr (bitsF b n) k) 1 = if b k = true then 1 else 0 := by
  have e := bitsF_ext b n (6 - n)
  rw [show n + (6 - n) = 6 by omega] at e
  rw [← e]
  have h := bits6 _ _ _ _ _ _ (bitsF (fun j => b j && decide (j < (n : Int))) 6) rfl
  obtain ⟨a0, a1, a2, a3, a4, a5⟩ := h
  have hb : b k = (b k && decide (k < (n : Int))) := by rw [decide_eq_true h1, Bool.and_true]
  rw [hb]
  have hk : k = 0 ∨ k = 1 ∨ k = 2 ∨ k = 3 ∨ k = 4 ∨ k = 5 := by omega
  rcases hk with rfl | rfl | rfl | rfl | rfl | rfl
  · exact a0
  · exact a1
  · exact a2
  · exact a3
  · exact a4
  · exact a5
def bcF (a : Int) : Int :=
  let x1 := a - iand (iushr a 1) 1431655765
  let x2 := iand x1 858993459 + iand (iushr x1 2) 858993459
  let x3 := iand (x2 + iushr x2 4) 252645135
  let x4 := x3 + iushr x3 8
  let x5 := x4 + iushr x4 16
  iand x5 63
theorem bc_f' {ω : Type} {K : _ → Option ω} {s : St} : cl (fJ6_bitCount_0f7a4 P s x) K = K (bcF x) := rfl
def o1 (b : Bool) : Int := if b = true then 1 else 0
set_option maxRecDepth 1000000 in
theorem bits12 : ∀ b0 b1 b2 b3 b4 b5 b6 b7 b8 b9 b10 b11 : Bool, bcF (ior (ior (ior (ior (ior (ior (ior (ior (ior (ior (ior (ior 0 (bt b0 0)) (bt b1 1)) (bt b2 2)) (bt b3 3)) (bt b4 4)) (bt b5 5)) (bt b6 6)) (bt b7 7)) (bt b8 8)) (bt b9 9)) (bt b10 10)) (bt b11 11)) = 0 + o1 b0 + o1 b1 + o1 b2 + o1 b3 + o1 b4 + o1 b5 + o1 b6 + o1 b7 + o1 b8 + o1 b9 + o1 b10 + o1 b11 := by decide +kernel
theorem cntF_ext (b : Int → Bool) (n : Nat) : ∀ k : Nat, forI (fun j a => a + o1 (b j && decide (j < (n : Int)))) (n + k) 0 = forI (fun j a => a + o1 (b j)) n 0
  | 0 => forI_congr fun k a hk => by
    show a + o1 (b k && decide ((k : Int) < (n : Int))) = a + o1 (b k)
    rw [decide_eq_true (by omega), Bool.and_true]
  | k + 1 => by
    show forI _ (n + k) 0 + o1 (b ((n + k : Nat) : Int) && decide (((n + k : Nat) : Int) < (n : Int))) = _
    rw [cntF_ext b n k]
    have : (b ((n + k : Nat) : Int) && decide (((n + k : Nat) : Int) < (n : Int))) = false := by
      rw [decide_eq_false (by push_cast; omega), Bool.and_false]
    rw [this]
    exact Int.add_zero _
theorem bits_cnt (b : Int → Bool) (hn : n ≤ 12) : bcF (bitsF b n) = forI (fun j a => a + o1 (b j)) n 0 := by
  have e := bitsF_ext b n (12 - n)
  have e2 := cntF_ext b n (12 - n)
  rw [show n + (12 - n) = 12 by omega] at e e2
  rw [← e, ← e2]
  exact bits12 _ _ _ _ _ _ _ _ _ _ _ _
theorem mtsF_b : mtsF t f d = bitsF (matF t f d) (t 0).toNat := rfl
theorem hbF_b : hbF t f d = bitsF (fun k => hdF f k d) (t 2).toNat := rfl
theorem hmF_b : hmF t f d = forI (fun j a => a + o1 (hdF f j d)) (t 2).toNat 0 := rfl
/-- all that a score with or without an error more needs -/
theorem c_mb (C : CR P σ p t f g) (T : TV t) (fk : Int) (b : Int → Bool) (hm : ∀ q, 0 ≤ q → q < t 0 → fX2_matches P σ 16 q d fk = some (if b q = true then 1 else 0)) : fX2_matchingBits P σ 16 d fk = some (bitsF b (t 0).toNat) := by
  have n0 := T.n0
  have hN := T.n0N
  unfold fX2_matchingBits bitsF
  refine (loop_v (fun m k a => fX2_matchingBits_L5 P σ 16 d fk (fun x7 => some x7) m a k) (fun a => some a) (t 0).toNat (fun k a => ior a (bt (b k) k)) (fun _ a => iR a = true) (fun k m a hk hI => ⟨?_, ior_R⟩) (fun m a _ => ?_) (m := 1000) (a := 0) (by omega) rfl).1
  · have hk2 : ¬ (t 0 ≤ (k : Int)) := by omega
    have hk3 := e_cl (α := Int) (K := fun x3 => jnt
          (fun x4 =>
            bd ((k : Int) + 1) fun x5 =>
            fX2_matchingBits_L5 P σ 16 d fk (fun x7 => some x7) m x4 x5)
          fun k35 =>
        jeq x3 0
          (k35 a)
          (
            bd (ior a (ishl 1 (k : Int))) fun x6 =>
            k35 x6)) (hm (k : Int) (by omega) (by omega))
    by_cases c : b (k : Int) = true
    · simp (disch := first | omega | assumption) only [fX2_matchingBits_L5, bt, ↓z_lt, ↓z_ge, ↓z_gt, ↓z_le, ↓z_eq, ↓z_ne, ↓z_mx, ↓z_mn, ↓z_dv, ↓z_rm, ↓z_i2l, ↓z_lc, ↓z_sw, ↓z_sf, ↓z_sn, ↓z_bd, ↓z_nt, z_b0, z_b1, z_bi, z_bj, ↓z_gF, ↓z_gR, ↓z_pF, ↓z_pZ, ↓z_pR, ↓z_aI, ↓z_aR, ↓z_sI, ↓z_sZ, ↓z_on, z_cl, ↓reduceIte, Int.reduceEq, Int.reduceNeg, Int.reduceLT, Int.reduceLE, Int.reduceAdd, Int.reduceSub, Int.reduceMul, true_and, and_true, or_true, true_or, eq_self, C.h0, C.h1, C.p2, C.p3, C.p4, C.p5, C.p6, C.p7, C.p8, C.p9, C.e0, C.e1, C.e2, C.e4, C.e5, C.l2, C.l3, C.l4, C.l5, C.pr.r7, C.pr.r8, C.pr.r9, C.pr.r10, C.pr.r11, C.pr.r12, C.pr.r13, C.pr.r14, C.pr.r15, C.pr.v0, C.pr.v1, C.pr.v2, C.pr.v3, C.pr.v4, C.pr.v5, C.pr.v6, C.pr.we, C.pr.wi, C.pr.pe, C.pr.fp, C.pr.he, C.pr.ho, C.pr.ra, C.pr.pa, C.tm, C.sc, C.po, C.al, C.ho, C.mo, C.dn, C.se, C.ke, C.ca, C.co, sO16 C.sh, sO27 C.sh, sO34 C.sh, sO40 C.sh, sA28 C.sh, sA29 C.sh, sA30 C.sh, sA31 C.sh, sA32 C.sh, sA33 C.sh, sA35 C.sh, sA36 C.sh, sA37 C.sh, sA38 C.sh, sA39 C.sh, sA41 C.sh, sA42 C.sh, sA43 C.sh, sA44 C.sh, pO C.sh C.pr.hp, pA1 C.sh C.pr.hp, pA2 C.sh C.pr.hp, pA3 C.sh C.pr.hp, pA4 C.sh C.pr.hp, pA5 C.sh C.pr.hp, pA6 C.sh C.pr.hp, pA7 C.sh C.pr.hp, pA8 C.sh C.pr.hp, pA9 C.sh C.pr.hp, pN C.pr.hp, pN0 C.pr.hp, iR_t, Int.reduceAdd, ↓hk3, hk2, c, T.vr]
    · simp (disch := first | omega | assumption) only [fX2_matchingBits_L5, bt, ↓z_lt, ↓z_ge, ↓z_gt, ↓z_le, ↓z_eq, ↓z_ne, ↓z_mx, ↓z_mn, ↓z_dv, ↓z_rm, ↓z_i2l, ↓z_lc, ↓z_sw, ↓z_sf, ↓z_sn, ↓z_bd, ↓z_nt, z_b0, z_b1, z_bi, z_bj, ↓z_gF, ↓z_gR, ↓z_pF, ↓z_pZ, ↓z_pR, ↓z_aI, ↓z_aR, ↓z_sI, ↓z_sZ, ↓z_on, z_cl, ↓reduceIte, Int.reduceEq, Int.reduceNeg, Int.reduceLT, Int.reduceLE, Int.reduceAdd, Int.reduceSub, Int.reduceMul, true_and, and_true, or_true, true_or, eq_self, C.h0, C.h1, C.p2, C.p3, C.p4, C.p5, C.p6, C.p7, C.p8, C.p9, C.e0, C.e1, C.e2, C.e4, C.e5, C.l2, C.l3, C.l4, C.l5, C.pr.r7, C.pr.r8, C.pr.r9, C.pr.r10, C.pr.r11, C.pr.r12, C.pr.r13, C.pr.r14, C.pr.r15, C.pr.v0, C.pr.v1, C.pr.v2, C.pr.v3, C.pr.v4, C.pr.v5, C.pr.v6, C.pr.we, C.pr.wi, C.pr.pe, C.pr.fp, C.pr.he, C.pr.ho, C.pr.ra, C.pr.pa, C.tm, C.sc, C.po, C.al, C.ho, C.mo, C.dn, C.se, C.ke, C.ca, C.co, sO16 C.sh, sO27 C.sh, sO34 C.sh, sO40 C.sh, sA28 C.sh, sA29 C.sh, sA30 C.sh, sA31 C.sh, sA32 C.sh, sA33 C.sh, sA35 C.sh, sA36 C.sh, sA37 C.sh, sA38 C.sh, sA39 C.sh, sA41 C.sh, sA42 C.sh, sA43 C.sh, sA44 C.sh, pO C.sh C.pr.hp, pA1 C.sh C.pr.hp, pA2 C.sh C.pr.hp, pA3 C.sh C.pr.hp, pA4 C.sh C.pr.hp, pA5 C.sh C.pr.hp, pA6 C.sh C.pr.hp, pA7 C.sh C.pr.hp, pA8 C.sh C.pr.hp, pA9 C.sh C.pr.hp, pN C.pr.hp, pN0 C.pr.hp, iR_t, Int.reduceAdd, ↓hk3, hk2, c, T.vr, Bool.false_eq_true, ior_0]
  · simp (disch := first | omega | assumption) only [fX2_matchingBits_L5, ↓z_lt, ↓z_ge, ↓z_gt, ↓z_le, ↓z_eq, ↓z_ne, ↓z_mx, ↓z_mn, ↓z_dv, ↓z_rm, ↓z_i2l, ↓z_lc, ↓z_sw, ↓z_sf, ↓z_sn, ↓z_bd, ↓z_nt, z_b0, z_b1, z_bi, z_bj, ↓z_gF, ↓z_gR, ↓z_pF, ↓z_pZ, ↓z_pR, ↓z_aI, ↓z_aR, ↓z_sI, ↓z_sZ, ↓z_on, z_cl, ↓reduceIte, Int.reduceEq, Int.reduceNeg, Int.reduceLT, Int.reduceLE, Int.reduceAdd, Int.reduceSub, Int.reduceMul, true_and, and_true, or_true, true_or, eq_self, C.h0, C.h1, C.p2, C.p3, C.p4, C.p5, C.p6, C.p7, C.p8, C.p9, C.e0, C.e1, C.e2, C.e4, C.e5, C.l2, C.l3, C.l4, C.l5, C.pr.r7, C.pr.r8, C.pr.r9, C.pr.r10, C.pr.r11, C.pr.r12, C.pr.r13, C.pr.r14, C.pr.r15, C.pr.v0, C.pr.v1, C.pr.v2, C.pr.v3, C.pr.v4, C.pr.v5, C.pr.v6, C.pr.we, C.pr.wi, C.pr.pe, C.pr.fp, C.pr.he, C.pr.ho, C.pr.ra, C.pr.pa, C.tm, C.sc, C.po, C.al, C.ho, C.mo, C.dn, C.se, C.ke, C.ca, C.co, sO16 C.sh, sO27 C.sh, sO34 C.sh, sO40 C.sh, sA28 C.sh, sA29 C.sh, sA30 C.sh, sA31 C.sh, sA32 C.sh, sA33 C.sh, sA35 C.sh, sA36 C.sh, sA37 C.sh, sA38 C.sh, sA39 C.sh, sA41 C.sh, sA42 C.sh, sA43 C.sh, sA44 C.sh, pO C.sh C.pr.hp, pA1 C.sh C.pr.hp, pA2 C.sh C.pr.hp, pA3 C.sh C.pr.hp, pA4 C.sh C.pr.hp, pA5 C.sh C.pr.hp, pA6 C.sh C.pr.hp, pA7 C.sh C.pr.hp, pA8 C.sh C.pr.hp, pA9 C.sh C.pr.hp, pN C.pr.hp, pN0 C.pr.hp, iR_t, Int.reduceAdd, hN, Int.le_refl, T.vr]
theorem c_matchingBits (C : CR P σ p t f g) (T : TV t) (F : FV B t f g) (h0 : 0 ≤ d) (h1 : d < t 1) : fX2_matchingBits P σ 16 d (-1) = some (mtsF t f d) :=
  c_mb C T (-1) (matF t f d) fun q q0 q1 => c_matches C T F h0 h1 q0 q1
theorem c_matchingBits' {ω : Type} {K : _ → Option ω} (C : CR P σ p t f g) (T : TV t) (F : FV B t f g) (h0 : 0 ≤ d) (h1 : d < t 1) : cl (fX2_matchingBits P σ 16 d (-1)) K = K ((mtsF t f d)) := e_cl (c_matchingBits C T F h0 h1)
theorem c_sc (C : CR P σ p t f g) (T : TV t) (fk : Int) (b : Int → Bool) (hm : fX2_matchingBits P σ 16 d fk = some (bitsF b (t 0).toNat)) : fX2_scoreOf P σ 16 d fk = some (forI (fun p a => a + (if b p = true then t (7 + 8 * p) else 0)) (t 0).toNat 0) := by
  have n0 := T.n0
  have hN := T.n0N
  have l1 := loop_v (fun m k a => fX2_scoreOf_L13 P σ 16 (bitsF b (t 0).toNat) (fun x10 => some x10) m a k) (fun a => some a) (t 0).toNat (fun p a => a + (if b p = true then t (7 + 8 * p) else 0)) (fun _ _ => True) (fun k m a hk _ => by
      refine ⟨?_, trivial⟩
      have hk2 : ¬ (t 0 ≤ (k : Int)) := by omega
      have hb := bits_at (n := (t 0).toNat) (k := (k : Int)) b (by omega) (by omega) (by omega)
      by_cases c : b (k : Int) = true
      · simp (disch := first | omega | assumption) only [fX2_scoreOf_L13, ↓z_lt, ↓z_ge, ↓z_gt, ↓z_le, ↓z_eq, ↓z_ne, ↓z_mx, ↓z_mn, ↓z_dv, ↓z_rm, ↓z_i2l, ↓z_lc, ↓z_sw, ↓z_sf, ↓z_sn, ↓z_bd, ↓z_nt, z_b0, z_b1, z_bi, z_bj, ↓z_gF, ↓z_gR, ↓z_pF, ↓z_pZ, ↓z_pR, ↓z_aI, ↓z_aR, ↓z_sI, ↓z_sZ, ↓z_on, z_cl, ↓reduceIte, Int.reduceEq, Int.reduceNeg, Int.reduceLT, Int.reduceLE, Int.reduceAdd, Int.reduceSub, Int.reduceMul, true_and, and_true, or_true, true_or, eq_self, C.h0, C.h1, C.p2, C.p3, C.p4, C.p5, C.p6, C.p7, C.p8, C.p9, C.e0, C.e1, C.e2, C.e4, C.e5, C.l2, C.l3, C.l4, C.l5, C.pr.r7, C.pr.r8, C.pr.r9, C.pr.r10, C.pr.r11, C.pr.r12, C.pr.r13, C.pr.r14, C.pr.r15, C.pr.v0, C.pr.v1, C.pr.v2, C.pr.v3, C.pr.v4, C.pr.v5, C.pr.v6, C.pr.we, C.pr.wi, C.pr.pe, C.pr.fp, C.pr.he, C.pr.ho, C.pr.ra, C.pr.pa, C.tm, C.sc, C.po, C.al, C.ho, C.mo, C.dn, C.se, C.ke, C.ca, C.co, sO16 C.sh, sO27 C.sh, sO34 C.sh, sO40 C.sh, sA28 C.sh, sA29 C.sh, sA30 C.sh, sA31 C.sh, sA32 C.sh, sA33 C.sh, sA35 C.sh, sA36 C.sh, sA37 C.sh, sA38 C.sh, sA39 C.sh, sA41 C.sh, sA42 C.sh, sA43 C.sh, sA44 C.sh, pO C.sh C.pr.hp, pA1 C.sh C.pr.hp, pA2 C.sh C.pr.hp, pA3 C.sh C.pr.hp, pA4 C.sh C.pr.hp, pA5 C.sh C.pr.hp, pA6 C.sh C.pr.hp, pA7 C.sh C.pr.hp, pA8 C.sh C.pr.hp, pA9 C.sh C.pr.hp, pN C.pr.hp, pN0 C.pr.hp, iR_t, Int.reduceAdd, hb, hk2, c, T.vr]
      · simp (disch := first | omega | assumption) only [fX2_scoreOf_L13, ↓z_lt, ↓z_ge, ↓z_gt, ↓z_le, ↓z_eq, ↓z_ne, ↓z_mx, ↓z_mn, ↓z_dv, ↓z_rm, ↓z_i2l, ↓z_lc, ↓z_sw, ↓z_sf, ↓z_sn, ↓z_bd, ↓z_nt, z_b0, z_b1, z_bi, z_bj, ↓z_gF, ↓z_gR, ↓z_pF, ↓z_pZ, ↓z_pR, ↓z_aI, ↓z_aR, ↓z_sI, ↓z_sZ, ↓z_on, z_cl, ↓reduceIte, Int.reduceEq, Int.reduceNeg, Int.reduceLT, Int.reduceLE, Int.reduceAdd, Int.reduceSub, Int.reduceMul, true_and, and_true, or_true, true_or, eq_self, C.h0, C.h1, C.p2, C.p3, C.p4, C.p5, C.p6, C.p7, C.p8, C.p9, C.e0, C.e1, C.e2, C.e4, C.e5, C.l2, C.l3, C.l4, C.l5, C.pr.r7, C.pr.r8, C.pr.r9, C.pr.r10, C.pr.r11, C.pr.r12, C.pr.r13, C.pr.r14, C.pr.r15, C.pr.v0, C.pr.v1, C.pr.v2, C.pr.v3, C.pr.v4, C.pr.v5, C.pr.v6, C.pr.we, C.pr.wi, C.pr.pe, C.pr.fp, C.pr.he, C.pr.ho, C.pr.ra, C.pr.pa, C.tm, C.sc, C.po, C.al, C.ho, C.mo, C.dn, C.se, C.ke, C.ca, C.co, sO16 C.sh, sO27 C.sh, sO34 C.sh, sO40 C.sh, sA28 C.sh, sA29 C.sh, sA30 C.sh, sA31 C.sh, sA32 C.sh, sA33 C.sh, sA35 C.sh, sA36 C.sh, sA37 C.sh, sA38 C.sh, sA39 C.sh, sA41 C.sh, sA42 C.sh, sA43 C.sh, sA44 C.sh, pO C.sh C.pr.hp, pA1 C.sh C.pr.hp, pA2 C.sh C.pr.hp, pA3 C.sh C.pr.hp, pA4 C.sh C.pr.hp, pA5 C.sh C.pr.hp, pA6 C.sh C.pr.hp, pA7 C.sh C.pr.hp, pA8 C.sh C.pr.hp, pA9 C.sh C.pr.hp, pN C.pr.hp, pN0 C.pr.hp, iR_t, Int.reduceAdd, hb, hk2, c, T.vr, Bool.false_eq_true, Int.add_zero])
    (fun m a _ => by simp (disch := first | omega | assumption) only [fX2_scoreOf_L13, ↓z_lt, ↓z_ge, ↓z_gt, ↓z_le, ↓z_eq, ↓z_ne, ↓z_mx, ↓z_mn, ↓z_dv, ↓z_rm, ↓z_i2l, ↓z_lc, ↓z_sw, ↓z_sf, ↓z_sn, ↓z_bd, ↓z_nt, z_b0, z_b1, z_bi, z_bj, ↓z_gF, ↓z_gR, ↓z_pF, ↓z_pZ, ↓z_pR, ↓z_aI, ↓z_aR, ↓z_sI, ↓z_sZ, ↓z_on, z_cl, ↓reduceIte, Int.reduceEq, Int.reduceNeg, Int.reduceLT, Int.reduceLE, Int.reduceAdd, Int.reduceSub, Int.reduceMul, true_and, and_true, or_true, true_or, eq_self, C.h0, C.h1, C.p2, C.p3, C.p4, C.p5, C.p6, C.p7, C.p8, C.p9, C.e0, C.e1, C.e2, C.e4, C.e5, C.l2, C.l3, C.l4, C.l5, C.pr.r7, C.pr.r8, C.pr.r9, C.pr.r10, C.pr.r11, C.pr.r12, C.pr.r13, C.pr.r14, C.pr.r15, C.pr.v0, C.pr.v1, C.pr.v2, C.pr.v3, C.pr.v4, C.pr.v5, C.pr.v6, C.pr.we, C.pr.wi, C.pr.pe, C.pr.fp, C.pr.he, C.pr.ho, C.pr.ra, C.pr.pa, C.tm, C.sc, C.po, C.al, C.ho, C.mo, C.dn, C.se, C.ke, C.ca, C.co, sO16 C.sh, sO27 C.sh, sO34 C.sh, sO40 C.sh, sA28 C.sh, sA29 C.sh, sA30 C.sh, sA31 C.sh, sA32 C.sh, sA33 C.sh, sA35 C.sh, sA36 C.sh, sA37 C.sh, sA38 C.sh, sA39 C.sh, sA41 C.sh, sA42 C.sh, sA43 C.sh, sA44 C.sh, pO C.sh C.pr.hp, pA1 C.sh C.pr.hp, pA2 C.sh C.pr.hp, pA3 C.sh C.pr.hp, pA4 C.sh C.pr.hp, pA5 C.sh C.pr.hp, pA6 C.sh C.pr.hp, pA7 C.sh C.pr.hp, pA8 C.sh C.pr.hp, pA9 C.sh C.pr.hp, pN C.pr.hp, pN0 C.pr.hp, iR_t, Int.reduceAdd, hN, Int.le_refl, T.vr]) (m := 1000) (a := 0) (by omega) trivial
  unfold fX2_scoreOf
  simp (disch := first | omega | assumption) only [↓z_on, C.h0, C.h1, C.p2, C.p3, C.p4, C.p5, C.p6, C.p7, C.p8, C.p9, C.e0, C.e1, C.e2, C.e4, C.e5, C.l2, C.l3, C.l4, C.l5, C.pr.r7, C.pr.r8, C.pr.r9, C.pr.r10, C.pr.r11, C.pr.r12, C.pr.r13, C.pr.r14, C.pr.r15, C.pr.v0, C.pr.v1, C.pr.v2, C.pr.v3, C.pr.v4, C.pr.v5, C.pr.v6, C.pr.we, C.pr.wi, C.pr.pe, C.pr.fp, C.pr.he, C.pr.ho, C.pr.ra, C.pr.pa, C.tm, C.sc, C.po, C.al, C.ho, C.mo, C.dn, C.se, C.ke, C.ca, C.co, sO16 C.sh, sO27 C.sh, sO34 C.sh, sO40 C.sh, sA28 C.sh, sA29 C.sh, sA30 C.sh, sA31 C.sh, sA32 C.sh, sA33 C.sh, sA35 C.sh, sA36 C.sh, sA37 C.sh, sA38 C.sh, sA39 C.sh, sA41 C.sh, sA42 C.sh, sA43 C.sh, sA44 C.sh, pO C.sh C.pr.hp, pA1 C.sh C.pr.hp, pA2 C.sh C.pr.hp, pA3 C.sh C.pr.hp, pA4 C.sh C.pr.hp, pA5 C.sh C.pr.hp, pA6 C.sh C.pr.hp, pA7 C.sh C.pr.hp, pA8 C.sh C.pr.hp, pA9 C.sh C.pr.hp, pN C.pr.hp, pN0 C.pr.hp, iR_t, Int.reduceAdd, ↓reduceIte]
  rw [e_cl hm]
  exact l1.1
theorem c_scoreOf (C : CR P σ p t f g) (T : TV t) (F : FV B t f g) (h0 : 0 ≤ d) (h1 : d < t 1) : fX2_scoreOf P σ 16 d (-1) = some (scoF t f d) :=
  c_sc C T (-1) (matF t f d) (c_matchingBits C T F h0 h1)
theorem c_scoreOf' {ω : Type} {K : _ → Option ω} (C : CR P σ p t f g) (T : TV t) (F : FV B t f g) (h0 : 0 ≤ d) (h1 : d < t 1) : cl (fX2_scoreOf P σ 16 d (-1)) K = K ((scoF t f d)) := e_cl (c_scoreOf C T F h0 h1)
theorem c_scoreK (C : CR P σ p t f g) (T : TV t) (F : FV B t f g) (h0 : 0 ≤ d) (h1 : d < t 1) (k0 : 0 ≤ kind) (k1 : kind < 4) : fX2_scoreOf P σ 16 d kind = some (scoF t (keeF f d kind) d) :=
  c_sc C T kind (matF t (keeF f d kind) d) (c_mb C T kind (matF t (keeF f d kind) d) fun q q0 q1 => c_matchesK C T F h0 h1 q0 q1 k0 k1)
theorem c_scoreK' {ω : Type} {K : _ → Option ω} (C : CR P σ p t f g) (T : TV t) (F : FV B t f g) (h0 : 0 ≤ d) (h1 : d < t 1) (k0 : 0 ≤ kind) (k1 : kind < 4) : cl (fX2_scoreOf P σ 16 d kind) K = K ((scoF t (keeF f d kind) d)) := e_cl (c_scoreK C T F h0 h1 k0 k1)
end ZM
