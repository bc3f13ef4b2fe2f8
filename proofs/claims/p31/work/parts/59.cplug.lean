/-! THE CLASS'S FRAMES AND PLUGS. -/
section ZT
variable {P : Shp} {σ σ' σ1 : St} {t f f' f2 g : Int → Int} {B : Int} {d k p q kind who m h j c x y i v w part : Int} {n : Nat}
theorem zu_comm (h : i ≠ j) : zu (zu f i v) j w = zu (zu f j w) i v := by
  funext x
  unfold zu
  by_cases a : x = i
  · subst a; rw [if_neg h, if_pos rfl, if_pos rfl]
  · rw [if_neg a, if_neg a]
theorem hapF_zu (h0 : 14 ≤ i) (h1 : i < 338) (h12 : 0 ≤ f 12) (k0 : 0 ≤ kind) (k1 : kind < 10) : hapF (zu f i v) kind who = zu (hapF f kind who) i v := by
  have e12 : zu f i v 12 = f 12 := zu_n (by omega)
  have e0 : zu f i v 0 = f 0 := zu_n (by omega)
  have ek : zu f i v (2 + kind) = f (2 + kind) := zu_n (by omega)
  unfold hapF
  rw [e12, e0, ek]
  rw [zu_comm (i := i) (j := 338 + 3 * (f 12 % 24)) (by omega), zu_comm (i := i) (j := 338 + 3 * (f 12 % 24) + 1) (by omega), zu_comm (i := i) (j := 338 + 3 * (f 12 % 24) + 2) (by omega), zu_comm (i := i) (j := 12) (by omega), zu_comm (i := i) (j := 2 + kind) (by omega)]
/-- a stream of an unplugged device -/
def undF (f : Int → Int) (k d : Int) : Int → Int :=
  if hdF f k d = true then zu (if becF f k 0 (-1) (238 + 3 * k + 2) ≤ 0 then becF f k 0 (-1) else hapF (becF f k 0 (-1)) 7 k) (238 + 3 * k + 2) 0 else f
def un0F (f : Int → Int) (d : Int) : Int → Int :=
  zu (zu (zu (hapF f (if f (14 + 28 * d + 1) = 1 then 2 else 3) d) (14 + 28 * d + 0) (-1)) (14 + 28 * d + 1) 0) (14 + 28 * d + 3) 0
def un1F (t f : Int → Int) (d : Int) : Int → Int := forI (fun k a => undF a k d) (t 2).toNat (un0F f d)
def unpF (t f : Int → Int) (d : Int) : Int → Int := setF t (zu (un1F t f d) 10 (un1F t f d 10 + stF t f d))
theorem FV.unz (F : FV B t f g) (T : TV t) (h0 : 0 ≤ d) (h1 : d < t 1) (h4 : 12 ≤ B) : FV B t (zu (zu (zu f (14 + 28 * d + 0) (-1)) (14 + 28 * d + 1) 0) (14 + 28 * d + 3) 0) g := by
  have n1 := T.n1
  have n2 := T.n2
  have b0 := F.b0
  refine ⟨by omega, bl_zu (bl_zu (bl_zu F.bl (by omega)) (by omega)) (by omega), F.bg, ?_, ?_, ?_, ?_, ?_, ?_, ?_, ?_, ?_⟩
  · simp (disch := omega) only [zu_n]; exact F.tq
  · simp (disch := omega) only [zu_n]; exact F.ev
  · intro e e0 e1; have := F.al e e0 e1
    by_cases c : e = d
    · subst c; simp (disch := omega) only [zu_n, zu_s, true_or]
    · simp (disch := omega) only [zu_n]; exact this
  · intro e e0 e1; have := F.un e e0 e1
    by_cases c : e = d
    · subst c; simp (disch := omega) only [zu_n, zu_s]; exact fun _ => ⟨trivial, trivial⟩
    · simp (disch := omega) only [zu_n]; exact this
  · intro e e0 e1; have := F.si e e0 e1; simp (disch := omega) only [zu_n]; exact this
  · intro e e0 e1; have := F.mn e e0 e1
    by_cases c : e = d
    · subst c; simp (disch := omega) only [zu_n, zu_s]; omega
    · simp (disch := omega) only [zu_n]; exact this
  · intro e e0 e1; have := F.mo e e0 e1; simp (disch := omega) only [zu_n]; exact this
  · intro e e0 e1; have := F.ho e e0 e1; simp (disch := omega) only [zu_n]; exact this
  · intro e e0 e1; have := F.dn e e0 e1; simp (disch := omega) only [zu_n]; exact this
theorem FV.plz (F : FV B t f g) (T : TV t) (h0 : 0 ≤ d) (h1 : d < t 1) (hp : f (14 + 28 * d + 0) = -1) (v0 : 0 ≤ v) (v1 : v < 8) (h4 : 12 ≤ B) : FV B t (zu (zu f (14 + 28 * d + 0) v) (14 + 28 * d + 3) 0) g := by
  have n1 := T.n1
  have n2 := T.n2
  have b0 := F.b0
  refine ⟨by omega, bl_zu (bl_zu F.bl (by omega)) (by omega), F.bg, ?_, ?_, ?_, ?_, ?_, ?_, ?_, ?_, ?_⟩
  · simp (disch := omega) only [zu_n]; exact F.tq
  · simp (disch := omega) only [zu_n]; exact F.ev
  · intro e e0 e1; have := F.al e e0 e1; simp (disch := omega) only [zu_n]; exact this
  · intro e e0 e1; have := F.un e e0 e1
    by_cases c : e = d
    · subst c; simp (disch := omega) only [zu_n, zu_s]; exact fun z => absurd z (by omega)
    · simp (disch := omega) only [zu_n]; exact this
  · intro e e0 e1; have := F.si e e0 e1; simp (disch := omega) only [zu_n]; exact this
  · intro e e0 e1; have := F.mn e e0 e1
    by_cases c : e = d
    · subst c; simp (disch := omega) only [zu_n, zu_s]; omega
    · simp (disch := omega) only [zu_n]; exact this
  · intro e e0 e1; have := F.mo e e0 e1; simp (disch := omega) only [zu_n]; exact this
  · intro e e0 e1; have := F.ho e e0 e1; simp (disch := omega) only [zu_n]; exact this
  · intro e e0 e1; have := F.dn e e0 e1; simp (disch := omega) only [zu_n]; exact this
theorem FV.un0 (F : FV B t f g) (T : TV t) (h0 : 0 ≤ d) (h1 : d < t 1) (h4 : 12 ≤ B) (hB : B < 1999999000) : FV (B + 1) t (un0F f d) g := by
  have n1 := T.n1
  have F2 := F.hap T (by omega) (kind := if f (14 + 28 * d + 1) = 1 then 2 else 3) (who := d) (by split <;> omega) (by split <;> omega) (by omega) (by omega) h4
  exact F2.unz T h0 h1 (by omega)
/-- of a stream that waits, nothing is done -/
theorem FV.zd0 (F : FV B t f g) (T : TV t) (h0 : 0 ≤ k) (h1 : k < t 2) (h4 : 12 ≤ B) : FV B t (zu f (238 + 3 * k + 2) 0) g := by
  have n1 := T.n1
  have n2 := T.n2
  have b0 := F.b0
  have pa := T.pa k h0 h1
  refine ⟨by omega, bl_zu F.bl (by omega), F.bg, ?_, ?_, ?_, ?_, ?_, ?_, ?_, ?_, ?_⟩
  · simp (disch := omega) only [zu_n]; exact F.tq
  · simp (disch := omega) only [zu_n]; exact F.ev
  · intro e e0 e1; have := F.al e e0 e1; simp (disch := omega) only [zu_n]; exact this
  · intro e e0 e1; have := F.un e e0 e1; simp (disch := omega) only [zu_n]; exact this
  · intro e e0 e1; have := F.si e e0 e1; simp (disch := omega) only [zu_n]; exact this
  · intro e e0 e1; have := F.mn e e0 e1; simp (disch := omega) only [zu_n]; exact this
  · intro e e0 e1; have := F.mo e e0 e1; simp (disch := omega) only [zu_n]; exact this
  · intro e e0 e1; have := F.ho e e0 e1; simp (disch := omega) only [zu_n]; exact this
  · intro e e0 e1; have := F.dn e e0 e1
    by_cases c : e = k
    · subst c; rw [zu_s]; omega
    · simp (disch := omega) only [zu_n]; exact this
theorem FV.und (F : FV B t f g) (T : TV t) (h0 : 0 ≤ k) (h1 : k < t 2) (h4 : 12 ≤ B) (hB : B < 2000000000) : FV (B + 1) t (undF f k d) g := by
  have n2 := T.n2
  unfold undF
  by_cases c : hdF f k d = true
  · rw [if_pos c]
    have F1 := F.bec T h0 h1 (m := 0) (h := -1) (Or.inl ⟨rfl, rfl⟩) h4
    by_cases c2 : becF f k 0 (-1) (238 + 3 * k + 2) ≤ 0
    · rw [if_pos c2]; exact (F1.zd0 T h0 h1 h4).mono (by omega) (by omega)
    · rw [if_neg c2]; exact (F1.hap T hB (by omega) (by omega) (by omega) (by omega) h4).zd0 T h0 h1 (by omega)
  · rw [if_neg c]; exact F.mono (by omega) (by omega)
theorem CV.und (V : CV f) (T : TV t) (h12 : 0 ≤ f 12) (h0 : 0 ≤ k) (h1 : k < t 2) : CV (undF f k d) := by
  have n2 := T.n2
  unfold undF
  have e12 : 0 ≤ becF f k 0 (-1) 12 := by unfold becF; simp (disch := omega) only [zu_n]; exact h12
  split
  · refine CV.zu ?_ (by omega)
    split
    · exact V.bec T h0 h1
    · exact (V.bec T h0 h1).hap e12 (by omega) (by omega)
  · exact V
theorem undF_o (T : TV t) (h12 : 0 ≤ f 12) (h0 : 0 ≤ k) (h1 : k < t 2) (hj : j = 0 ∨ j = 1 ∨ 13 ≤ j) (hj2 : j < 338) (hn : j < 238 + 3 * k ∨ 238 + 3 * k + 2 < j) : undF f k d j = f j := by
  have n2 := T.n2
  unfold undF
  have e12 : 0 ≤ becF f k 0 (-1) 12 := by unfold becF; simp (disch := omega) only [zu_n]; exact h12
  have ej : becF f k 0 (-1) j = f j := by unfold becF; simp (disch := omega) only [zu_n]
  split
  · rw [zu_n (by omega)]
    split
    · exact ej
    · rw [hapF_o e12 (by omega) (by omega) hj hj2]; exact ej
  · rfl
theorem CR.drop (C : CR P σ p t f g) (T : TV t) (F : FV B t f g) (V : CV f) (h0 : 0 ≤ k) (h1 : k < t 2) : CR P (wr (wr (wr σ 32 k 0) 30 k (-1)) 31 k 0) p t (zu (zu (zu f (238 + 3 * k + 2) 0) (238 + 3 * k + 1) (-1)) (238 + 3 * k) 0) g := by
  have n1 := T.n1; have n2 := T.n2; have MN := F.mn; have CL := V.le; have CI := fun c => couK_in (f := f) (c := c) V.c0
  refine C.fr (fun o ho => by simp (disch := omega) only [wr_o]) ?_
  have S := C.s
  have V2 := V.zu (i := 238 + 3 * k + 2) (v := 0) (by omega)
  have V3 := V2.zu (i := 238 + 3 * k + 1) (v := -1) (by omega)
  refine ⟨?_, ?_, ?_, ?_, ?_, ?_, ?_, ?_, ?_, ?_, ?_, ?_, ?_, ?_, ?_, ?_, ?_, ?_, ?_, ?_, ?_, ?_, ?_, ?_, ?_, ?_, ?_, ?_, ?_, ?_, ?_, ?_, ?_, ?_, ?_, ?_, ?_⟩
  · have q := S.p2; try simp (disch := omega) only [wr_n, zu_n, couK_zu V3, couK_zu V2, couK_zu V]
    exact q
  · have q := S.p3; try simp (disch := omega) only [wr_n, zu_n, couK_zu V3, couK_zu V2, couK_zu V]
    exact q
  · have q := S.p4; try simp (disch := omega) only [wr_n, zu_n, couK_zu V3, couK_zu V2, couK_zu V]
    exact q
  · have q := S.p5; try simp (disch := omega) only [wr_n, zu_n, couK_zu V3, couK_zu V2, couK_zu V]
    exact q
  · have q := S.p6; try simp (disch := omega) only [wr_n, zu_n, couK_zu V3, couK_zu V2, couK_zu V]
    exact q
  · have q := S.p7; try simp (disch := omega) only [wr_n, zu_n, couK_zu V3, couK_zu V2, couK_zu V]
    exact q
  · have q := S.p8; try simp (disch := omega) only [wr_n, zu_n, couK_zu V3, couK_zu V2, couK_zu V]
    exact q
  · have q := S.p9; try simp (disch := omega) only [wr_n, zu_n, couK_zu V3, couK_zu V2, couK_zu V]
    exact q
  · have q := S.e0; try simp (disch := omega) only [wr_n, zu_n, couK_zu V3, couK_zu V2, couK_zu V]
    exact q
  · have q := S.e1; try simp (disch := omega) only [wr_n, zu_n, couK_zu V3, couK_zu V2, couK_zu V]
    exact q
  · have q := S.e2; try simp (disch := omega) only [wr_n, zu_n, couK_zu V3, couK_zu V2, couK_zu V]
    exact q
  · have q := S.e4; try simp (disch := omega) only [wr_n, zu_n, couK_zu V3, couK_zu V2, couK_zu V]
    exact q
  · have q := S.e5; try simp (disch := omega) only [wr_n, zu_n, couK_zu V3, couK_zu V2, couK_zu V]
    exact q
  · have q := S.l2; try simp (disch := omega) only [wr_n, zu_n, couK_zu V3, couK_zu V2, couK_zu V]
    exact q
  · have q := S.l3; try simp (disch := omega) only [wr_n, zu_n, couK_zu V3, couK_zu V2, couK_zu V]
    exact q
  · have q := S.l4; try simp (disch := omega) only [wr_n, zu_n, couK_zu V3, couK_zu V2, couK_zu V]
    exact q
  · have q := S.l5; try simp (disch := omega) only [wr_n, zu_n, couK_zu V3, couK_zu V2, couK_zu V]
    exact q
  · have q := S.tm; try simp (disch := omega) only [wr_n, zu_n, couK_zu V3, couK_zu V2, couK_zu V]
    exact q
  · have q := S.sc; try simp (disch := omega) only [wr_n, zu_n, couK_zu V3, couK_zu V2, couK_zu V]
    exact q
  · intro e e0 e1; have q := S.po e e0 e1; try simp (disch := omega) only [wr_n, zu_n, couK_zu V3, couK_zu V2, couK_zu V]
    exact q
  · intro e e0 e1; have q := S.al e e0 e1; try simp (disch := omega) only [wr_n, zu_n, couK_zu V3, couK_zu V2, couK_zu V]
    exact q
  · intro e e0 e1; (rw [wr_n (by omega)]; by_cases z : e = k; (subst z; rw [zu_n (by omega), zu_s]; exact wr_s); (simp (disch := omega) only [zu_n]; refine (wr_i z).trans ?_; rw [wr_n (by omega)]; exact S.ho e e0 e1))
  · intro e e0 e1; (by_cases z : e = k; (subst z; rw [zu_s]; exact wr_s); (simp (disch := omega) only [zu_n]; refine (wr_i z).trans ?_; rw [wr_n (by omega), wr_n (by omega)]; exact S.mo e e0 e1))
  · intro e e0 e1; (rw [wr_n (by omega), wr_n (by omega)]; by_cases z : e = k; (subst z; rw [zu_n (by omega), zu_n (by omega), zu_s]; exact wr_s); (simp (disch := omega) only [zu_n]; exact (wr_i z).trans (S.dn e e0 e1)))
  · intro e e0 e1; have q := S.se e e0 e1; try simp (disch := omega) only [wr_n, zu_n, couK_zu V3, couK_zu V2, couK_zu V]
    exact q
  · intro e e0 e1; have q := S.ke e e0 e1; try simp (disch := omega) only [wr_n, zu_n, couK_zu V3, couK_zu V2, couK_zu V]
    exact q
  · intro e u e0 e1 u0 u1; have mn := MN e e0 e1; try simp (disch := omega) only [wr_n, zu_n, couK_zu V3, couK_zu V2, couK_zu V] at u1
    have q := S.ki e u e0 e1 u0 u1; try simp (disch := omega) only [wr_n, zu_n, couK_zu V3, couK_zu V2, couK_zu V]
    exact q
  · intro e u e0 e1 u0 u1; have mn := MN e e0 e1; try simp (disch := omega) only [wr_n, zu_n, couK_zu V3, couK_zu V2, couK_zu V] at u1
    have q := S.ti e u e0 e1 u0 u1; try simp (disch := omega) only [wr_n, zu_n, couK_zu V3, couK_zu V2, couK_zu V]
    exact q
  · have q := S.ca; try simp (disch := omega) only [wr_n, zu_n, couK_zu V3, couK_zu V2, couK_zu V]
    exact q
  · intro e e0 e1; try simp (disch := omega) only [wr_n, zu_n, couK_zu V3, couK_zu V2, couK_zu V] at e1
    have q := S.co e e0 e1; have cl := CL; try simp (disch := omega) only [wr_n, zu_n, couK_zu V3, couK_zu V2, couK_zu V]
    exact q
  · intro e e0 e1; have ci := CI e; have cl := CL; have q := S.ct e e0 e1; try simp (disch := omega) only [wr_n, zu_n, couK_zu V3, couK_zu V2, couK_zu V]
    exact q
  · have q := S.lk; try simp (disch := omega) only [wr_n, zu_n, couK_zu V3, couK_zu V2, couK_zu V]
    exact q
  · have q := S.ln; try simp (disch := omega) only [wr_n, zu_n, couK_zu V3, couK_zu V2, couK_zu V]
    exact q
  · intro e e0 e1 e2; try simp (disch := omega) only [wr_n, zu_n, couK_zu V3, couK_zu V2, couK_zu V] at e2
    have q := S.lq e e0 e1 e2; try simp (disch := omega) only [wr_n, zu_n, couK_zu V3, couK_zu V2, couK_zu V]
    exact q
  · intro e e0 e1 e2; try simp (disch := omega) only [wr_n, zu_n, couK_zu V3, couK_zu V2, couK_zu V] at e2
    have q := S.li e e0 e1 e2; try simp (disch := omega) only [wr_n, zu_n, couK_zu V3, couK_zu V2, couK_zu V]
    exact q
  · intro e e0 e1 e2; try simp (disch := omega) only [wr_n, zu_n, couK_zu V3, couK_zu V2, couK_zu V] at e2
    have q := S.lt e e0 e1 e2; try simp (disch := omega) only [wr_n, zu_n, couK_zu V3, couK_zu V2, couK_zu V]
    exact q
  · intro e e0 e1; have q := S.to e e0 e1; try simp (disch := omega) only [wr_n, zu_n, couK_zu V3, couK_zu V2, couK_zu V]
    exact q
theorem becF_z : zu (becF f k 0 (-1)) (238 + 3 * k + 2) 0 = zu (zu (zu f (238 + 3 * k + 2) 0) (238 + 3 * k + 1) (-1)) (238 + 3 * k) 0 := by
  unfold becF
  rw [zu_comm (i := 238 + 3 * k + 1) (by omega), zu_comm (i := 238 + 3 * k) (j := 238 + 3 * k + 2) (by omega), zu_comm (i := 238 + 3 * k) (j := 238 + 3 * k + 1) (by omega)]
theorem becF_hap (T : TV t) (h12 : 0 ≤ f 12) (h0 : 0 ≤ k) (h1 : k < t 2) : hapF (becF f k 0 (-1)) 7 k = becF (hapF f 7 k) k 0 (-1) := by
  have n2 := T.n2
  unfold becF
  rw [hapF_zu (by omega) (by omega) (by rw [zu_n (by omega)]; exact h12) (by omega) (by omega), hapF_zu (by omega) (by omega) h12 (by omega) (by omega)]
theorem c_dropStream (C : CR P σ p t f g) (T : TV t) (F : FV B t f g) (V : CV f) (h0 : 0 ≤ k) (h1 : k < t 2) (hh : hdF f k d = true) (h4 : 12 ≤ B) (hB : B < 2000000000) :
    ∃ σ', fX2_dropStream P σ 16 k = some (f (238 + 3 * k + 2), σ') ∧ CR P σ' p t (undF f k d) g ∧ Fr σ σ' := by
  have n1 := T.n1; have n2 := T.n2; have MN := F.mn; have CL := V.le; have CI := fun c => couK_in (f := f) (c := c) V.c0
  have dn := F.dn k h0 h1
  have eb : becF f k 0 (-1) (238 + 3 * k + 2) = f (238 + 3 * k + 2) := by unfold becF; simp (disch := omega) only [zu_n]
  unfold undF
  rw [if_pos hh, eb]
  by_cases c : f (238 + 3 * k + 2) ≤ 0
  · rw [if_pos c, becF_z]
    refine ⟨_, ?_, C.drop T F V h0 h1, fun o ho => by simp (disch := omega) only [wr_o]⟩
    simp (disch := first | omega | assumption) only [fX2_dropStream, ↓z_lt, ↓z_ge, ↓z_gt, ↓z_le, ↓z_eq, ↓z_ne, ↓z_mx, ↓z_mn, ↓z_dv, ↓z_rm, ↓z_i2l, ↓z_lc, ↓z_sw, ↓z_sf, ↓z_sn, ↓z_bd, ↓z_nt, z_b0, z_b1, z_bi, z_bj, ↓z_gF, ↓z_gR, ↓z_pF, ↓z_pZ, ↓z_pR, ↓z_aI, ↓z_aR, ↓z_sI, ↓z_sZ, ↓z_on, z_cl, ↓reduceIte, Int.reduceEq, Int.reduceNeg, Int.reduceLT, Int.reduceLE, Int.reduceAdd, Int.reduceSub, Int.reduceMul, true_and, and_true, or_true, true_or, eq_self, C.h0, C.h1, C.p2, C.p3, C.p4, C.p5, C.p6, C.p7, C.p8, C.p9, C.e0, C.e1, C.e2, C.e4, C.e5, C.l2, C.l3, C.l4, C.l5, C.pr.r7, C.pr.r8, C.pr.r9, C.pr.r10, C.pr.r11, C.pr.r12, C.pr.r13, C.pr.r14, C.pr.r15, C.pr.v0, C.pr.v1, C.pr.v2, C.pr.v3, C.pr.v4, C.pr.v5, C.pr.v6, C.pr.we, C.pr.wi, C.pr.pe, C.pr.fp, C.pr.he, C.pr.ho, C.pr.ra, C.pr.pa, C.tm, C.sc, C.po, C.al, C.ho, C.mo, C.dn, C.se, C.ke, C.ca, C.co, sO16 C.sh, sO27 C.sh, sO34 C.sh, sO40 C.sh, sA28 C.sh, sA29 C.sh, sA30 C.sh, sA31 C.sh, sA32 C.sh, sA33 C.sh, sA35 C.sh, sA36 C.sh, sA37 C.sh, sA38 C.sh, sA39 C.sh, sA41 C.sh, sA42 C.sh, sA43 C.sh, sA44 C.sh, pO C.sh C.pr.hp, pA1 C.sh C.pr.hp, pA2 C.sh C.pr.hp, pA3 C.sh C.pr.hp, pA4 C.sh C.pr.hp, pA5 C.sh C.pr.hp, pA6 C.sh C.pr.hp, pA7 C.sh C.pr.hp, pA8 C.sh C.pr.hp, pA9 C.sh C.pr.hp, pN C.pr.hp, pN0 C.pr.hp, iR_t, Int.reduceAdd, c, F.vr, wr_n]
  · rw [if_neg c, becF_hap T F.ev h0 h1, becF_z]
    obtain ⟨σ1, e, C1, fr⟩ := c_add C T F V (kind := 7) (who := k) (by omega) (by omega)
    have F1 := F.hap T hB (kind := 7) (who := k) (by omega) (by omega) (by omega) (by omega) h4
    have V1 := V.hap (kind := 7) (who := k) F.ev (by omega) (by omega)
    refine ⟨_, ?_, C1.drop T F1 V1 h0 h1, fr.tr fun o ho => by simp (disch := omega) only [wr_o]⟩
    simp (disch := first | omega | assumption | (simp (disch := omega) only [ C.h1, C.p9, C.tm ]; done) | fail) only [fX2_dropStream, ↓z_lt, ↓z_ge, ↓z_gt, ↓z_le, ↓z_eq, ↓z_ne, ↓z_mx, ↓z_mn, ↓z_dv, ↓z_rm, ↓z_i2l, ↓z_lc, ↓z_sw, ↓z_sf, ↓z_sn, ↓z_bd, ↓z_nt, z_b0, z_b1, z_bi, z_bj, ↓z_gF, ↓z_gR, ↓z_pF, ↓z_pZ, ↓z_pR, ↓z_aI, ↓z_aR, ↓z_sI, ↓z_sZ, ↓z_on, z_cl, ↓reduceIte, Int.reduceEq, Int.reduceNeg, Int.reduceLT, Int.reduceLE, Int.reduceAdd, Int.reduceSub, Int.reduceMul, true_and, and_true, or_true, true_or, eq_self, C.h0, C.h1, C.p2, C.p3, C.p4, C.p5, C.p6, C.p7, C.p8, C.p9, C.e0, C.e1, C.e2, C.e4, C.e5, C.l2, C.l3, C.l4, C.l5, C.pr.r7, C.pr.r8, C.pr.r9, C.pr.r10, C.pr.r11, C.pr.r12, C.pr.r13, C.pr.r14, C.pr.r15, C.pr.v0, C.pr.v1, C.pr.v2, C.pr.v3, C.pr.v4, C.pr.v5, C.pr.v6, C.pr.we, C.pr.wi, C.pr.pe, C.pr.fp, C.pr.he, C.pr.ho, C.pr.ra, C.pr.pa, C.tm, C.sc, C.po, C.al, C.ho, C.mo, C.dn, C.se, C.ke, C.ca, C.co, sO16 C.sh, sO27 C.sh, sO34 C.sh, sO40 C.sh, sA28 C.sh, sA29 C.sh, sA30 C.sh, sA31 C.sh, sA32 C.sh, sA33 C.sh, sA35 C.sh, sA36 C.sh, sA37 C.sh, sA38 C.sh, sA39 C.sh, sA41 C.sh, sA42 C.sh, sA43 C.sh, sA44 C.sh, pO C.sh C.pr.hp, pA1 C.sh C.pr.hp, pA2 C.sh C.pr.hp, pA3 C.sh C.pr.hp, pA4 C.sh C.pr.hp, pA5 C.sh C.pr.hp, pA6 C.sh C.pr.hp, pA7 C.sh C.pr.hp, pA8 C.sh C.pr.hp, pA9 C.sh C.pr.hp, pN C.pr.hp, pN0 C.pr.hp, iR_t, Int.reduceAdd, c, F.vr, wr_n, ↓e_g e, C1.h1, C1.p6, C1.p4, C1.p5]
end ZT
