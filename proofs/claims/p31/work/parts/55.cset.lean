/-! THE CLASS SETTLES. -/
section ZP
variable {P : Shp} {σ σ' : St} {t f f' g : Int → Int} {B : Int} {d k p q kind who m h j c x y i v part : Int} {n : Nat}
theorem CV.zu (V : CV f) (hi : i ≠ 13 ∧ (i < 274 ∨ 338 ≤ i)) : CV (zu f i v) := V.to fun j hj => zu_n (by omega)
theorem CV.hap (V : CV f) (h12 : 0 ≤ f 12) (h0 : 0 ≤ kind) (h1 : kind < 10) : CV (hapF f kind who) := V.to fun j hj => hapF_o h12 h0 h1 (by omega) (by omega)
theorem couK_zu (V : CV f) (hi : i ≠ 13 ∧ (i < 274 ∨ 338 ≤ i)) : couK (zu f i v) c = couK f c := by
  have := V.c0
  have := V.le
  exact couK_c V.c0 (zu_n (by omega)) fun j j0 j1 => zu_n (by omega)
theorem CR.zmo (C : CR P σ p t f g) (T : TV t) (F : FV B t f g) (V : CV f) (h0 : 0 ≤ k) (h1 : k < t 2) : CR P (wr σ 31 k m) p t (zu f (238 + 3 * k) m) g := by
  have n1 := T.n1; have n2 := T.n2; have MN := F.mn; have CL := V.le; have CI := fun c => couK_in (f := f) (c := c) V.c0
  refine C.fr (fun o ho => by simp (disch := omega) only [wr_o]) ?_
  have S := C.s
  refine ⟨?_, ?_, ?_, ?_, ?_, ?_, ?_, ?_, ?_, ?_, ?_, ?_, ?_, ?_, ?_, ?_, ?_, ?_, ?_, ?_, ?_, ?_, ?_, ?_, ?_, ?_, ?_, ?_, ?_, ?_, ?_, ?_, ?_, ?_, ?_, ?_, ?_⟩
  · have q := S.p2; try simp (disch := omega) only [wr_n, zu_n, couK_zu V]
    exact q
  · have q := S.p3; try simp (disch := omega) only [wr_n, zu_n, couK_zu V]
    exact q
  · have q := S.p4; try simp (disch := omega) only [wr_n, zu_n, couK_zu V]
    exact q
  · have q := S.p5; try simp (disch := omega) only [wr_n, zu_n, couK_zu V]
    exact q
  · have q := S.p6; try simp (disch := omega) only [wr_n, zu_n, couK_zu V]
    exact q
  · have q := S.p7; try simp (disch := omega) only [wr_n, zu_n, couK_zu V]
    exact q
  · have q := S.p8; try simp (disch := omega) only [wr_n, zu_n, couK_zu V]
    exact q
  · have q := S.p9; try simp (disch := omega) only [wr_n, zu_n, couK_zu V]
    exact q
  · have q := S.e0; try simp (disch := omega) only [wr_n, zu_n, couK_zu V]
    exact q
  · have q := S.e1; try simp (disch := omega) only [wr_n, zu_n, couK_zu V]
    exact q
  · have q := S.e2; try simp (disch := omega) only [wr_n, zu_n, couK_zu V]
    exact q
  · have q := S.e4; try simp (disch := omega) only [wr_n, zu_n, couK_zu V]
    exact q
  · have q := S.e5; try simp (disch := omega) only [wr_n, zu_n, couK_zu V]
    exact q
  · have q := S.l2; try simp (disch := omega) only [wr_n, zu_n, couK_zu V]
    exact q
  · have q := S.l3; try simp (disch := omega) only [wr_n, zu_n, couK_zu V]
    exact q
  · have q := S.l4; try simp (disch := omega) only [wr_n, zu_n, couK_zu V]
    exact q
  · have q := S.l5; try simp (disch := omega) only [wr_n, zu_n, couK_zu V]
    exact q
  · have q := S.tm; try simp (disch := omega) only [wr_n, zu_n, couK_zu V]
    exact q
  · have q := S.sc; try simp (disch := omega) only [wr_n, zu_n, couK_zu V]
    exact q
  · intro e e0 e1; have q := S.po e e0 e1; try simp (disch := omega) only [wr_n, zu_n, couK_zu V]
    exact q
  · intro e e0 e1; have q := S.al e e0 e1; try simp (disch := omega) only [wr_n, zu_n, couK_zu V]
    exact q
  · intro e e0 e1; have q := S.ho e e0 e1; try simp (disch := omega) only [wr_n, zu_n, couK_zu V]
    exact q
  · intro e e0 e1; (by_cases z : e = k; (subst z; rw [zu_s]; exact wr_s); (rw [zu_n (by omega)]; exact (wr_i z).trans (S.mo e e0 e1)))
  · intro e e0 e1; have q := S.dn e e0 e1; try simp (disch := omega) only [wr_n, zu_n, couK_zu V]
    exact q
  · intro e e0 e1; have q := S.se e e0 e1; try simp (disch := omega) only [wr_n, zu_n, couK_zu V]
    exact q
  · intro e e0 e1; have q := S.ke e e0 e1; try simp (disch := omega) only [wr_n, zu_n, couK_zu V]
    exact q
  · intro e u e0 e1 u0 u1; have mn := MN e e0 e1; try simp (disch := omega) only [wr_n, zu_n, couK_zu V] at u1
    have q := S.ki e u e0 e1 u0 u1; try simp (disch := omega) only [wr_n, zu_n, couK_zu V]
    exact q
  · intro e u e0 e1 u0 u1; have mn := MN e e0 e1; try simp (disch := omega) only [wr_n, zu_n, couK_zu V] at u1
    have q := S.ti e u e0 e1 u0 u1; try simp (disch := omega) only [wr_n, zu_n, couK_zu V]
    exact q
  · have q := S.ca; try simp (disch := omega) only [wr_n, zu_n, couK_zu V]
    exact q
  · intro e e0 e1; try simp (disch := omega) only [wr_n, zu_n, couK_zu V] at e1
    have q := S.co e e0 e1; have cl := CL; try simp (disch := omega) only [wr_n, zu_n, couK_zu V]
    exact q
  · intro e e0 e1; have ci := CI e; have cl := CL; have q := S.ct e e0 e1; try simp (disch := omega) only [wr_n, zu_n, couK_zu V]
    exact q
  · have q := S.lk; try simp (disch := omega) only [wr_n, zu_n, couK_zu V]
    exact q
  · have q := S.ln; try simp (disch := omega) only [wr_n, zu_n, couK_zu V]
    exact q
  · intro e e0 e1 e2; try simp (disch := omega) only [wr_n, zu_n, couK_zu V] at e2
    have q := S.lq e e0 e1 e2; try simp (disch := omega) only [wr_n, zu_n, couK_zu V]
    exact q
  · intro e e0 e1 e2; try simp (disch := omega) only [wr_n, zu_n, couK_zu V] at e2
    have q := S.li e e0 e1 e2; try simp (disch := omega) only [wr_n, zu_n, couK_zu V]
    exact q
  · intro e e0 e1 e2; try simp (disch := omega) only [wr_n, zu_n, couK_zu V] at e2
    have q := S.lt e e0 e1 e2; try simp (disch := omega) only [wr_n, zu_n, couK_zu V]
    exact q
  · intro e e0 e1; have q := S.to e e0 e1; try simp (disch := omega) only [wr_n, zu_n, couK_zu V]
    exact q
theorem CR.zho (C : CR P σ p t f g) (T : TV t) (F : FV B t f g) (V : CV f) (h0 : 0 ≤ k) (h1 : k < t 2) : CR P (wr σ 30 k h) p t (zu f (238 + 3 * k + 1) h) g := by
  have n1 := T.n1; have n2 := T.n2; have MN := F.mn; have CL := V.le; have CI := fun c => couK_in (f := f) (c := c) V.c0
  refine C.fr (fun o ho => by simp (disch := omega) only [wr_o]) ?_
  have S := C.s
  refine ⟨?_, ?_, ?_, ?_, ?_, ?_, ?_, ?_, ?_, ?_, ?_, ?_, ?_, ?_, ?_, ?_, ?_, ?_, ?_, ?_, ?_, ?_, ?_, ?_, ?_, ?_, ?_, ?_, ?_, ?_, ?_, ?_, ?_, ?_, ?_, ?_, ?_⟩
  · have q := S.p2; try simp (disch := omega) only [wr_n, zu_n, couK_zu V]
    exact q
  · have q := S.p3; try simp (disch := omega) only [wr_n, zu_n, couK_zu V]
    exact q
  · have q := S.p4; try simp (disch := omega) only [wr_n, zu_n, couK_zu V]
    exact q
  · have q := S.p5; try simp (disch := omega) only [wr_n, zu_n, couK_zu V]
    exact q
  · have q := S.p6; try simp (disch := omega) only [wr_n, zu_n, couK_zu V]
    exact q
  · have q := S.p7; try simp (disch := omega) only [wr_n, zu_n, couK_zu V]
    exact q
  · have q := S.p8; try simp (disch := omega) only [wr_n, zu_n, couK_zu V]
    exact q
  · have q := S.p9; try simp (disch := omega) only [wr_n, zu_n, couK_zu V]
    exact q
  · have q := S.e0; try simp (disch := omega) only [wr_n, zu_n, couK_zu V]
    exact q
  · have q := S.e1; try simp (disch := omega) only [wr_n, zu_n, couK_zu V]
    exact q
  · have q := S.e2; try simp (disch := omega) only [wr_n, zu_n, couK_zu V]
    exact q
  · have q := S.e4; try simp (disch := omega) only [wr_n, zu_n, couK_zu V]
    exact q
  · have q := S.e5; try simp (disch := omega) only [wr_n, zu_n, couK_zu V]
    exact q
  · have q := S.l2; try simp (disch := omega) only [wr_n, zu_n, couK_zu V]
    exact q
  · have q := S.l3; try simp (disch := omega) only [wr_n, zu_n, couK_zu V]
    exact q
  · have q := S.l4; try simp (disch := omega) only [wr_n, zu_n, couK_zu V]
    exact q
  · have q := S.l5; try simp (disch := omega) only [wr_n, zu_n, couK_zu V]
    exact q
  · have q := S.tm; try simp (disch := omega) only [wr_n, zu_n, couK_zu V]
    exact q
  · have q := S.sc; try simp (disch := omega) only [wr_n, zu_n, couK_zu V]
    exact q
  · intro e e0 e1; have q := S.po e e0 e1; try simp (disch := omega) only [wr_n, zu_n, couK_zu V]
    exact q
  · intro e e0 e1; have q := S.al e e0 e1; try simp (disch := omega) only [wr_n, zu_n, couK_zu V]
    exact q
  · intro e e0 e1; (by_cases z : e = k; (subst z; rw [zu_s]; exact wr_s); (rw [zu_n (by omega)]; exact (wr_i z).trans (S.ho e e0 e1)))
  · intro e e0 e1; have q := S.mo e e0 e1; try simp (disch := omega) only [wr_n, zu_n, couK_zu V]
    exact q
  · intro e e0 e1; have q := S.dn e e0 e1; try simp (disch := omega) only [wr_n, zu_n, couK_zu V]
    exact q
  · intro e e0 e1; have q := S.se e e0 e1; try simp (disch := omega) only [wr_n, zu_n, couK_zu V]
    exact q
  · intro e e0 e1; have q := S.ke e e0 e1; try simp (disch := omega) only [wr_n, zu_n, couK_zu V]
    exact q
  · intro e u e0 e1 u0 u1; have mn := MN e e0 e1; try simp (disch := omega) only [wr_n, zu_n, couK_zu V] at u1
    have q := S.ki e u e0 e1 u0 u1; try simp (disch := omega) only [wr_n, zu_n, couK_zu V]
    exact q
  · intro e u e0 e1 u0 u1; have mn := MN e e0 e1; try simp (disch := omega) only [wr_n, zu_n, couK_zu V] at u1
    have q := S.ti e u e0 e1 u0 u1; try simp (disch := omega) only [wr_n, zu_n, couK_zu V]
    exact q
  · have q := S.ca; try simp (disch := omega) only [wr_n, zu_n, couK_zu V]
    exact q
  · intro e e0 e1; try simp (disch := omega) only [wr_n, zu_n, couK_zu V] at e1
    have q := S.co e e0 e1; have cl := CL; try simp (disch := omega) only [wr_n, zu_n, couK_zu V]
    exact q
  · intro e e0 e1; have ci := CI e; have cl := CL; have q := S.ct e e0 e1; try simp (disch := omega) only [wr_n, zu_n, couK_zu V]
    exact q
  · have q := S.lk; try simp (disch := omega) only [wr_n, zu_n, couK_zu V]
    exact q
  · have q := S.ln; try simp (disch := omega) only [wr_n, zu_n, couK_zu V]
    exact q
  · intro e e0 e1 e2; try simp (disch := omega) only [wr_n, zu_n, couK_zu V] at e2
    have q := S.lq e e0 e1 e2; try simp (disch := omega) only [wr_n, zu_n, couK_zu V]
    exact q
  · intro e e0 e1 e2; try simp (disch := omega) only [wr_n, zu_n, couK_zu V] at e2
    have q := S.li e e0 e1 e2; try simp (disch := omega) only [wr_n, zu_n, couK_zu V]
    exact q
  · intro e e0 e1 e2; try simp (disch := omega) only [wr_n, zu_n, couK_zu V] at e2
    have q := S.lt e e0 e1 e2; try simp (disch := omega) only [wr_n, zu_n, couK_zu V]
    exact q
  · intro e e0 e1; have q := S.to e e0 e1; try simp (disch := omega) only [wr_n, zu_n, couK_zu V]
    exact q
theorem CR.zdn {g2 : Int → Int} (C : CR P σ p t f g) (T : TV t) (F : FV B t f g2) (V : CV f) (h0 : 0 ≤ k) (h1 : k < t 2) : CR P (wr σ 32 k h) p t (zu f (238 + 3 * k + 2) h) g := by
  have n1 := T.n1; have n2 := T.n2; have MN := F.mn; have CL := V.le; have CI := fun c => couK_in (f := f) (c := c) V.c0
  refine C.fr (fun o ho => by simp (disch := omega) only [wr_o]) ?_
  have S := C.s
  refine ⟨?_, ?_, ?_, ?_, ?_, ?_, ?_, ?_, ?_, ?_, ?_, ?_, ?_, ?_, ?_, ?_, ?_, ?_, ?_, ?_, ?_, ?_, ?_, ?_, ?_, ?_, ?_, ?_, ?_, ?_, ?_, ?_, ?_, ?_, ?_, ?_, ?_⟩
  · have q := S.p2; try simp (disch := omega) only [wr_n, zu_n, couK_zu V]
    exact q
  · have q := S.p3; try simp (disch := omega) only [wr_n, zu_n, couK_zu V]
    exact q
  · have q := S.p4; try simp (disch := omega) only [wr_n, zu_n, couK_zu V]
    exact q
  · have q := S.p5; try simp (disch := omega) only [wr_n, zu_n, couK_zu V]
    exact q
  · have q := S.p6; try simp (disch := omega) only [wr_n, zu_n, couK_zu V]
    exact q
  · have q := S.p7; try simp (disch := omega) only [wr_n, zu_n, couK_zu V]
    exact q
  · have q := S.p8; try simp (disch := omega) only [wr_n, zu_n, couK_zu V]
    exact q
  · have q := S.p9; try simp (disch := omega) only [wr_n, zu_n, couK_zu V]
    exact q
  · have q := S.e0; try simp (disch := omega) only [wr_n, zu_n, couK_zu V]
    exact q
  · have q := S.e1; try simp (disch := omega) only [wr_n, zu_n, couK_zu V]
    exact q
  · have q := S.e2; try simp (disch := omega) only [wr_n, zu_n, couK_zu V]
    exact q
  · have q := S.e4; try simp (disch := omega) only [wr_n, zu_n, couK_zu V]
    exact q
  · have q := S.e5; try simp (disch := omega) only [wr_n, zu_n, couK_zu V]
    exact q
  · have q := S.l2; try simp (disch := omega) only [wr_n, zu_n, couK_zu V]
    exact q
  · have q := S.l3; try simp (disch := omega) only [wr_n, zu_n, couK_zu V]
    exact q
  · have q := S.l4; try simp (disch := omega) only [wr_n, zu_n, couK_zu V]
    exact q
  · have q := S.l5; try simp (disch := omega) only [wr_n, zu_n, couK_zu V]
    exact q
  · have q := S.tm; try simp (disch := omega) only [wr_n, zu_n, couK_zu V]
    exact q
  · have q := S.sc; try simp (disch := omega) only [wr_n, zu_n, couK_zu V]
    exact q
  · intro e e0 e1; have q := S.po e e0 e1; try simp (disch := omega) only [wr_n, zu_n, couK_zu V]
    exact q
  · intro e e0 e1; have q := S.al e e0 e1; try simp (disch := omega) only [wr_n, zu_n, couK_zu V]
    exact q
  · intro e e0 e1; have q := S.ho e e0 e1; try simp (disch := omega) only [wr_n, zu_n, couK_zu V]
    exact q
  · intro e e0 e1; have q := S.mo e e0 e1; try simp (disch := omega) only [wr_n, zu_n, couK_zu V]
    exact q
  · intro e e0 e1; (by_cases z : e = k; (subst z; rw [zu_s]; exact wr_s); (rw [zu_n (by omega)]; exact (wr_i z).trans (S.dn e e0 e1)))
  · intro e e0 e1; have q := S.se e e0 e1; try simp (disch := omega) only [wr_n, zu_n, couK_zu V]
    exact q
  · intro e e0 e1; have q := S.ke e e0 e1; try simp (disch := omega) only [wr_n, zu_n, couK_zu V]
    exact q
  · intro e u e0 e1 u0 u1; have mn := MN e e0 e1; try simp (disch := omega) only [wr_n, zu_n, couK_zu V] at u1
    have q := S.ki e u e0 e1 u0 u1; try simp (disch := omega) only [wr_n, zu_n, couK_zu V]
    exact q
  · intro e u e0 e1 u0 u1; have mn := MN e e0 e1; try simp (disch := omega) only [wr_n, zu_n, couK_zu V] at u1
    have q := S.ti e u e0 e1 u0 u1; try simp (disch := omega) only [wr_n, zu_n, couK_zu V]
    exact q
  · have q := S.ca; try simp (disch := omega) only [wr_n, zu_n, couK_zu V]
    exact q
  · intro e e0 e1; try simp (disch := omega) only [wr_n, zu_n, couK_zu V] at e1
    have q := S.co e e0 e1; have cl := CL; try simp (disch := omega) only [wr_n, zu_n, couK_zu V]
    exact q
  · intro e e0 e1; have ci := CI e; have cl := CL; have q := S.ct e e0 e1; try simp (disch := omega) only [wr_n, zu_n, couK_zu V]
    exact q
  · have q := S.lk; try simp (disch := omega) only [wr_n, zu_n, couK_zu V]
    exact q
  · have q := S.ln; try simp (disch := omega) only [wr_n, zu_n, couK_zu V]
    exact q
  · intro e e0 e1 e2; try simp (disch := omega) only [wr_n, zu_n, couK_zu V] at e2
    have q := S.lq e e0 e1 e2; try simp (disch := omega) only [wr_n, zu_n, couK_zu V]
    exact q
  · intro e e0 e1 e2; try simp (disch := omega) only [wr_n, zu_n, couK_zu V] at e2
    have q := S.li e e0 e1 e2; try simp (disch := omega) only [wr_n, zu_n, couK_zu V]
    exact q
  · intro e e0 e1 e2; try simp (disch := omega) only [wr_n, zu_n, couK_zu V] at e2
    have q := S.lt e e0 e1 e2; try simp (disch := omega) only [wr_n, zu_n, couK_zu V]
    exact q
  · intro e e0 e1; have q := S.to e e0 e1; try simp (disch := omega) only [wr_n, zu_n, couK_zu V]
    exact q
theorem CR.zse (C : CR P σ p t f g) (h0 : 0 ≤ k) (h1 : k < t 2) : CR P (wr σ 33 k h) p t f (zu g k h) := by
  refine C.fr (fun o ho => by simp (disch := omega) only [wr_o]) ?_
  have S := C.s
  have MN := h0
  have CL := h0
  have CI := h0
  refine ⟨?_, ?_, ?_, ?_, ?_, ?_, ?_, ?_, ?_, ?_, ?_, ?_, ?_, ?_, ?_, ?_, ?_, ?_, ?_, ?_, ?_, ?_, ?_, ?_, ?_, ?_, ?_, ?_, ?_, ?_, ?_, ?_, ?_, ?_, ?_, ?_, ?_⟩
  · have q := S.p2; try simp (disch := omega) only [wr_n]
    exact q
  · have q := S.p3; try simp (disch := omega) only [wr_n]
    exact q
  · have q := S.p4; try simp (disch := omega) only [wr_n]
    exact q
  · have q := S.p5; try simp (disch := omega) only [wr_n]
    exact q
  · have q := S.p6; try simp (disch := omega) only [wr_n]
    exact q
  · have q := S.p7; try simp (disch := omega) only [wr_n]
    exact q
  · have q := S.p8; try simp (disch := omega) only [wr_n]
    exact q
  · have q := S.p9; try simp (disch := omega) only [wr_n]
    exact q
  · have q := S.e0; try simp (disch := omega) only [wr_n]
    exact q
  · have q := S.e1; try simp (disch := omega) only [wr_n]
    exact q
  · have q := S.e2; try simp (disch := omega) only [wr_n]
    exact q
  · have q := S.e4; try simp (disch := omega) only [wr_n]
    exact q
  · have q := S.e5; try simp (disch := omega) only [wr_n]
    exact q
  · have q := S.l2; try simp (disch := omega) only [wr_n]
    exact q
  · have q := S.l3; try simp (disch := omega) only [wr_n]
    exact q
  · have q := S.l4; try simp (disch := omega) only [wr_n]
    exact q
  · have q := S.l5; try simp (disch := omega) only [wr_n]
    exact q
  · have q := S.tm; try simp (disch := omega) only [wr_n]
    exact q
  · have q := S.sc; try simp (disch := omega) only [wr_n]
    exact q
  · intro e e0 e1; have q := S.po e e0 e1; try simp (disch := omega) only [wr_n]
    exact q
  · intro e e0 e1; have q := S.al e e0 e1; try simp (disch := omega) only [wr_n]
    exact q
  · intro e e0 e1; have q := S.ho e e0 e1; try simp (disch := omega) only [wr_n]
    exact q
  · intro e e0 e1; have q := S.mo e e0 e1; try simp (disch := omega) only [wr_n]
    exact q
  · intro e e0 e1; have q := S.dn e e0 e1; try simp (disch := omega) only [wr_n]
    exact q
  · intro e e0 e1; (by_cases z : e = k; (subst z; rw [zu_s]; exact wr_s); (rw [zu_n z]; exact (wr_i z).trans (S.se e e0 e1)))
  · intro e e0 e1; have q := S.ke e e0 e1; try simp (disch := omega) only [wr_n]
    exact q
  · intro e u e0 e1 u0 u1; (simp (disch := omega) only [wr_n]; exact S.ki e u e0 e1 u0 u1)
  · intro e u e0 e1 u0 u1; (simp (disch := omega) only [wr_n]; exact S.ti e u e0 e1 u0 u1)
  · have q := S.ca; try simp (disch := omega) only [wr_n]
    exact q
  · intro e e0 e1; try simp (disch := omega) only [wr_n] at e1
    have q := S.co e e0 e1; have cl := CL; try simp (disch := omega) only [wr_n]
    exact q
  · intro e e0 e1; (simp (disch := omega) only [wr_n]; exact S.ct e e0 e1)
  · have q := S.lk; try simp (disch := omega) only [wr_n]
    exact q
  · have q := S.ln; try simp (disch := omega) only [wr_n]
    exact q
  · intro e e0 e1 e2; try simp (disch := omega) only [wr_n] at e2
    have q := S.lq e e0 e1 e2; try simp (disch := omega) only [wr_n]
    exact q
  · intro e e0 e1 e2; try simp (disch := omega) only [wr_n] at e2
    have q := S.li e e0 e1 e2; try simp (disch := omega) only [wr_n]
    exact q
  · intro e e0 e1 e2; try simp (disch := omega) only [wr_n] at e2
    have q := S.lt e e0 e1 e2; try simp (disch := omega) only [wr_n]
    exact q
  · intro e e0 e1; have q := S.to e e0 e1; try simp (disch := omega) only [wr_n]
    exact q
theorem FV.zho (F : FV B t f g) (T : TV t) (V : CV f) (h0 : 0 ≤ k) (h1 : k < t 2) : ∀ d, 0 ≤ d → d < t 1 → 0 ≤ zu f (238 + 3 * k + 1) h (14 + 28 * d + 3) ∧ zu f (238 + 3 * k + 1) h (14 + 28 * d + 3) ≤ 12 := by
  have n1 := T.n1; have n2 := T.n2; have MN := F.mn; have CL := V.le; have CI := fun c => couK_in (f := f) (c := c) V.c0
  intro d d0 d1
  rw [zu_n (by omega)]
  exact F.mn d d0 d1
theorem CR.bec (C : CR P σ p t f g) (T : TV t) (F : FV B t f g) (V : CV f) (h0 : 0 ≤ k) (h1 : k < t 2) : CR P (wr (wr σ 30 k h) 31 k m) p t (becF f k m h) g := by
  have n1 := T.n1; have n2 := T.n2; have MN := F.mn; have CL := V.le; have CI := fun c => couK_in (f := f) (c := c) V.c0
  unfold becF
  refine C.fr (fun o ho => by simp (disch := omega) only [wr_o]) ?_
  have S := C.s
  have V2 := V.zu (i := 238 + 3 * k) (v := m) (by omega)
  refine ⟨?_, ?_, ?_, ?_, ?_, ?_, ?_, ?_, ?_, ?_, ?_, ?_, ?_, ?_, ?_, ?_, ?_, ?_, ?_, ?_, ?_, ?_, ?_, ?_, ?_, ?_, ?_, ?_, ?_, ?_, ?_, ?_, ?_, ?_, ?_, ?_, ?_⟩
  · have q := S.p2; try simp (disch := omega) only [wr_n, zu_n, couK_zu V2, couK_zu V]
    exact q
  · have q := S.p3; try simp (disch := omega) only [wr_n, zu_n, couK_zu V2, couK_zu V]
    exact q
  · have q := S.p4; try simp (disch := omega) only [wr_n, zu_n, couK_zu V2, couK_zu V]
    exact q
  · have q := S.p5; try simp (disch := omega) only [wr_n, zu_n, couK_zu V2, couK_zu V]
    exact q
  · have q := S.p6; try simp (disch := omega) only [wr_n, zu_n, couK_zu V2, couK_zu V]
    exact q
  · have q := S.p7; try simp (disch := omega) only [wr_n, zu_n, couK_zu V2, couK_zu V]
    exact q
  · have q := S.p8; try simp (disch := omega) only [wr_n, zu_n, couK_zu V2, couK_zu V]
    exact q
  · have q := S.p9; try simp (disch := omega) only [wr_n, zu_n, couK_zu V2, couK_zu V]
    exact q
  · have q := S.e0; try simp (disch := omega) only [wr_n, zu_n, couK_zu V2, couK_zu V]
    exact q
  · have q := S.e1; try simp (disch := omega) only [wr_n, zu_n, couK_zu V2, couK_zu V]
    exact q
  · have q := S.e2; try simp (disch := omega) only [wr_n, zu_n, couK_zu V2, couK_zu V]
    exact q
  · have q := S.e4; try simp (disch := omega) only [wr_n, zu_n, couK_zu V2, couK_zu V]
    exact q
  · have q := S.e5; try simp (disch := omega) only [wr_n, zu_n, couK_zu V2, couK_zu V]
    exact q
  · have q := S.l2; try simp (disch := omega) only [wr_n, zu_n, couK_zu V2, couK_zu V]
    exact q
  · have q := S.l3; try simp (disch := omega) only [wr_n, zu_n, couK_zu V2, couK_zu V]
    exact q
  · have q := S.l4; try simp (disch := omega) only [wr_n, zu_n, couK_zu V2, couK_zu V]
    exact q
  · have q := S.l5; try simp (disch := omega) only [wr_n, zu_n, couK_zu V2, couK_zu V]
    exact q
  · have q := S.tm; try simp (disch := omega) only [wr_n, zu_n, couK_zu V2, couK_zu V]
    exact q
  · have q := S.sc; try simp (disch := omega) only [wr_n, zu_n, couK_zu V2, couK_zu V]
    exact q
  · intro e e0 e1; have q := S.po e e0 e1; try simp (disch := omega) only [wr_n, zu_n, couK_zu V2, couK_zu V]
    exact q
  · intro e e0 e1; have q := S.al e e0 e1; try simp (disch := omega) only [wr_n, zu_n, couK_zu V2, couK_zu V]
    exact q
  · intro e e0 e1; (rw [wr_n (by omega)]; by_cases z : e = k; (subst z; rw [zu_s]; exact wr_s); (rw [zu_n (by omega), zu_n (by omega)]; exact (wr_i z).trans (S.ho e e0 e1)))
  · intro e e0 e1; (by_cases z : e = k; (subst z; rw [zu_n (by omega), zu_s]; exact wr_s); (rw [zu_n (by omega), zu_n (by omega)]; exact (wr_i z).trans ((wr_n (by omega)).trans (S.mo e e0 e1))))
  · intro e e0 e1; have q := S.dn e e0 e1; try simp (disch := omega) only [wr_n, zu_n, couK_zu V2, couK_zu V]
    exact q
  · intro e e0 e1; have q := S.se e e0 e1; try simp (disch := omega) only [wr_n, zu_n, couK_zu V2, couK_zu V]
    exact q
  · intro e e0 e1; have q := S.ke e e0 e1; try simp (disch := omega) only [wr_n, zu_n, couK_zu V2, couK_zu V]
    exact q
  · intro e u e0 e1 u0 u1; have mn := MN e e0 e1; try simp (disch := omega) only [wr_n, zu_n, couK_zu V2, couK_zu V] at u1
    have q := S.ki e u e0 e1 u0 u1; try simp (disch := omega) only [wr_n, zu_n, couK_zu V2, couK_zu V]
    exact q
  · intro e u e0 e1 u0 u1; have mn := MN e e0 e1; try simp (disch := omega) only [wr_n, zu_n, couK_zu V2, couK_zu V] at u1
    have q := S.ti e u e0 e1 u0 u1; try simp (disch := omega) only [wr_n, zu_n, couK_zu V2, couK_zu V]
    exact q
  · have q := S.ca; try simp (disch := omega) only [wr_n, zu_n, couK_zu V2, couK_zu V]
    exact q
  · intro e e0 e1; try simp (disch := omega) only [wr_n, zu_n, couK_zu V2, couK_zu V] at e1
    have q := S.co e e0 e1; have cl := CL; try simp (disch := omega) only [wr_n, zu_n, couK_zu V2, couK_zu V]
    exact q
  · intro e e0 e1; have ci := CI e; have cl := CL; have q := S.ct e e0 e1; try simp (disch := omega) only [wr_n, zu_n, couK_zu V2, couK_zu V]
    exact q
  · have q := S.lk; try simp (disch := omega) only [wr_n, zu_n, couK_zu V2, couK_zu V]
    exact q
  · have q := S.ln; try simp (disch := omega) only [wr_n, zu_n, couK_zu V2, couK_zu V]
    exact q
  · intro e e0 e1 e2; try simp (disch := omega) only [wr_n, zu_n, couK_zu V2, couK_zu V] at e2
    have q := S.lq e e0 e1 e2; try simp (disch := omega) only [wr_n, zu_n, couK_zu V2, couK_zu V]
    exact q
  · intro e e0 e1 e2; try simp (disch := omega) only [wr_n, zu_n, couK_zu V2, couK_zu V] at e2
    have q := S.li e e0 e1 e2; try simp (disch := omega) only [wr_n, zu_n, couK_zu V2, couK_zu V]
    exact q
  · intro e e0 e1 e2; try simp (disch := omega) only [wr_n, zu_n, couK_zu V2, couK_zu V] at e2
    have q := S.lt e e0 e1 e2; try simp (disch := omega) only [wr_n, zu_n, couK_zu V2, couK_zu V]
    exact q
  · intro e e0 e1; have q := S.to e e0 e1; try simp (disch := omega) only [wr_n, zu_n, couK_zu V2, couK_zu V]
    exact q
theorem CV.bec (V : CV f) (T : TV t) (h0 : 0 ≤ k) (h1 : k < t 2) : CV (becF f k m h) := by
  have n2 := T.n2
  exact (V.zu (by omega)).zu (by omega)
theorem c_settleHeld (C : CR P σ p t f g) (T : TV t) (F : FV B t f g) (V : CV f) (h0 : 0 ≤ k) (h1 : k < t 2) (hh : f (238 + 3 * k) ≠ 0) (h4 : 12 ≤ B) :
    ∃ σ', fX2_settleHeld P σ 16 k = some σ' ∧ CR P σ' p t (seHF t f k) g ∧ CV (seHF t f k) ∧ Fr σ σ' := by
  have n1 := T.n1; have n2 := T.n2; have MN := F.mn; have CL := V.le; have CI := fun c => couK_in (f := f) (c := c) V.c0
  have w := wantF_in (f := f) T h0 h1
  have dn := F.dn k h0 h1
  unfold seHF
  by_cases c1 : f (238 + 3 * k + 1) = wantF t f k
  · refine ⟨wr σ 31 k 1, ?_, ?_, ?_, ?_⟩
    · simp (disch := first | omega | assumption) only [fX2_settleHeld, ↓z_lt, ↓z_ge, ↓z_gt, ↓z_le, ↓z_eq, ↓z_ne, ↓z_mx, ↓z_mn, ↓z_dv, ↓z_rm, ↓z_i2l, ↓z_lc, ↓z_sw, ↓z_sf, ↓z_sn, ↓z_bd, ↓z_nt, z_b0, z_b1, z_bi, z_bj, ↓z_gF, ↓z_gR, ↓z_pF, ↓z_pZ, ↓z_pR, ↓z_aI, ↓z_aR, ↓z_sI, ↓z_sZ, ↓z_on, z_cl, ↓reduceIte, Int.reduceEq, Int.reduceNeg, Int.reduceLT, Int.reduceLE, Int.reduceAdd, Int.reduceSub, Int.reduceMul, true_and, and_true, or_true, true_or, eq_self, C.h0, C.h1, C.p2, C.p3, C.p4, C.p5, C.p6, C.p7, C.p8, C.p9, C.e0, C.e1, C.e2, C.e4, C.e5, C.l2, C.l3, C.l4, C.l5, C.pr.r7, C.pr.r8, C.pr.r9, C.pr.r10, C.pr.r11, C.pr.r12, C.pr.r13, C.pr.r14, C.pr.r15, C.pr.v0, C.pr.v1, C.pr.v2, C.pr.v3, C.pr.v4, C.pr.v5, C.pr.v6, C.pr.we, C.pr.wi, C.pr.pe, C.pr.fp, C.pr.he, C.pr.ho, C.pr.ra, C.pr.pa, C.tm, C.sc, C.po, C.al, C.ho, C.mo, C.dn, C.se, C.ke, C.ca, C.co, sO16 C.sh, sO27 C.sh, sO34 C.sh, sO40 C.sh, sA28 C.sh, sA29 C.sh, sA30 C.sh, sA31 C.sh, sA32 C.sh, sA33 C.sh, sA35 C.sh, sA36 C.sh, sA37 C.sh, sA38 C.sh, sA39 C.sh, sA41 C.sh, sA42 C.sh, sA43 C.sh, sA44 C.sh, pO C.sh C.pr.hp, pA1 C.sh C.pr.hp, pA2 C.sh C.pr.hp, pA3 C.sh C.pr.hp, pA4 C.sh C.pr.hp, pA5 C.sh C.pr.hp, pA6 C.sh C.pr.hp, pA7 C.sh C.pr.hp, pA8 C.sh C.pr.hp, pA9 C.sh C.pr.hp, pN C.pr.hp, pN0 C.pr.hp, iR_t, Int.reduceAdd, ↓c_wantedHolder' C T F, c1]
    · rw [if_pos c1]; exact C.zmo T F V h0 h1
    · rw [if_pos c1]; exact V.zu (by omega)
    · intro o ho; simp (disch := omega) only [wr_o]
  · rw [if_neg c1]
    by_cases c2 : f (238 + 3 * k + 2) ≤ 0
    · rw [if_pos c2]
      by_cases c3 : wantF t f k = -1
      · have F2 := (F.mod T h0 h1 hh (Or.inr rfl) h4).bec T h0 h1 (m := 0) (h := -1) (Or.inl ⟨rfl, rfl⟩) h4
        rw [show becF (zu f (238 + 3 * k) 2) k 0 (-1) = becF f k 0 (-1) by unfold becF; rw [zu_zu]] at F2
        have C2 := C.bec T F V h0 h1 (m := 0) (h := -1)
        have V2 := V.bec T h0 h1 (m := 0) (h := -1)
        obtain ⟨σ', e, C3, fr⟩ := c_add C2 T F2 V2 (kind := 5) (who := k) (by omega) (by omega)
        rw [show becF f k 0 (-1) 0 = f 0 by unfold becF; simp (disch := omega) only [zu_n]] at e
        rw [c3] at c1
        refine ⟨σ', ?_, ?_, ?_, ?_⟩
        · simp (disch := first | omega | assumption) only [fX2_settleHeld, ↓z_lt, ↓z_ge, ↓z_gt, ↓z_le, ↓z_eq, ↓z_ne, ↓z_mx, ↓z_mn, ↓z_dv, ↓z_rm, ↓z_i2l, ↓z_lc, ↓z_sw, ↓z_sf, ↓z_sn, ↓z_bd, ↓z_nt, z_b0, z_b1, z_bi, z_bj, ↓z_gF, ↓z_gR, ↓z_pF, ↓z_pZ, ↓z_pR, ↓z_aI, ↓z_aR, ↓z_sI, ↓z_sZ, ↓z_on, z_cl, ↓reduceIte, Int.reduceEq, Int.reduceNeg, Int.reduceLT, Int.reduceLE, Int.reduceAdd, Int.reduceSub, Int.reduceMul, true_and, and_true, or_true, true_or, eq_self, C.h0, C.h1, C.p2, C.p3, C.p4, C.p5, C.p6, C.p7, C.p8, C.p9, C.e0, C.e1, C.e2, C.e4, C.e5, C.l2, C.l3, C.l4, C.l5, C.pr.r7, C.pr.r8, C.pr.r9, C.pr.r10, C.pr.r11, C.pr.r12, C.pr.r13, C.pr.r14, C.pr.r15, C.pr.v0, C.pr.v1, C.pr.v2, C.pr.v3, C.pr.v4, C.pr.v5, C.pr.v6, C.pr.we, C.pr.wi, C.pr.pe, C.pr.fp, C.pr.he, C.pr.ho, C.pr.ra, C.pr.pa, C.tm, C.sc, C.po, C.al, C.ho, C.mo, C.dn, C.se, C.ke, C.ca, C.co, sO16 C.sh, sO27 C.sh, sO34 C.sh, sO40 C.sh, sA28 C.sh, sA29 C.sh, sA30 C.sh, sA31 C.sh, sA32 C.sh, sA33 C.sh, sA35 C.sh, sA36 C.sh, sA37 C.sh, sA38 C.sh, sA39 C.sh, sA41 C.sh, sA42 C.sh, sA43 C.sh, sA44 C.sh, pO C.sh C.pr.hp, pA1 C.sh C.pr.hp, pA2 C.sh C.pr.hp, pA3 C.sh C.pr.hp, pA4 C.sh C.pr.hp, pA5 C.sh C.pr.hp, pA6 C.sh C.pr.hp, pA7 C.sh C.pr.hp, pA8 C.sh C.pr.hp, pA9 C.sh C.pr.hp, pN C.pr.hp, pN0 C.pr.hp, iR_t, Int.reduceAdd, ↓c_wantedHolder' C T F, c1, c2, c3, wr_n, ↓e_cl e, F.vr]
        · rw [if_pos c3, if_pos c3, c3, show becF (zu f (238 + 3 * k) 2) k 0 (-1) = becF f k 0 (-1) by unfold becF; rw [zu_zu]]; exact C3
        · rw [if_pos c3, if_pos c3, c3, show becF (zu f (238 + 3 * k) 2) k 0 (-1) = becF f k 0 (-1) by unfold becF; rw [zu_zu]]; exact V2.hap F2.ev (by omega) (by omega)
        · exact Fr.tr (fun o ho => by simp (disch := omega) only [wr_o]) fr
      · have F2 := (F.mod T h0 h1 hh (Or.inr rfl) h4).bec T h0 h1 (m := 1) (h := wantF t f k) (Or.inr ⟨Or.inl rfl, by omega, by omega⟩) h4
        rw [show becF (zu f (238 + 3 * k) 2) k 1 (wantF t f k) = becF f k 1 (wantF t f k) by unfold becF; rw [zu_zu]] at F2
        have C2 := C.bec T F V h0 h1 (m := 1) (h := wantF t f k)
        have V2 := V.bec T h0 h1 (m := 1) (h := wantF t f k)
        obtain ⟨σ', e, C3, fr⟩ := c_add C2 T F2 V2 (kind := 4) (who := k) (by omega) (by omega)
        rw [show becF f k 1 (wantF t f k) 0 = f 0 by unfold becF; simp (disch := omega) only [zu_n]] at e
        refine ⟨σ', ?_, ?_, ?_, ?_⟩
        · simp (disch := first | omega | assumption) only [fX2_settleHeld, ↓z_lt, ↓z_ge, ↓z_gt, ↓z_le, ↓z_eq, ↓z_ne, ↓z_mx, ↓z_mn, ↓z_dv, ↓z_rm, ↓z_i2l, ↓z_lc, ↓z_sw, ↓z_sf, ↓z_sn, ↓z_bd, ↓z_nt, z_b0, z_b1, z_bi, z_bj, ↓z_gF, ↓z_gR, ↓z_pF, ↓z_pZ, ↓z_pR, ↓z_aI, ↓z_aR, ↓z_sI, ↓z_sZ, ↓z_on, z_cl, ↓reduceIte, Int.reduceEq, Int.reduceNeg, Int.reduceLT, Int.reduceLE, Int.reduceAdd, Int.reduceSub, Int.reduceMul, true_and, and_true, or_true, true_or, eq_self, C.h0, C.h1, C.p2, C.p3, C.p4, C.p5, C.p6, C.p7, C.p8, C.p9, C.e0, C.e1, C.e2, C.e4, C.e5, C.l2, C.l3, C.l4, C.l5, C.pr.r7, C.pr.r8, C.pr.r9, C.pr.r10, C.pr.r11, C.pr.r12, C.pr.r13, C.pr.r14, C.pr.r15, C.pr.v0, C.pr.v1, C.pr.v2, C.pr.v3, C.pr.v4, C.pr.v5, C.pr.v6, C.pr.we, C.pr.wi, C.pr.pe, C.pr.fp, C.pr.he, C.pr.ho, C.pr.ra, C.pr.pa, C.tm, C.sc, C.po, C.al, C.ho, C.mo, C.dn, C.se, C.ke, C.ca, C.co, sO16 C.sh, sO27 C.sh, sO34 C.sh, sO40 C.sh, sA28 C.sh, sA29 C.sh, sA30 C.sh, sA31 C.sh, sA32 C.sh, sA33 C.sh, sA35 C.sh, sA36 C.sh, sA37 C.sh, sA38 C.sh, sA39 C.sh, sA41 C.sh, sA42 C.sh, sA43 C.sh, sA44 C.sh, pO C.sh C.pr.hp, pA1 C.sh C.pr.hp, pA2 C.sh C.pr.hp, pA3 C.sh C.pr.hp, pA4 C.sh C.pr.hp, pA5 C.sh C.pr.hp, pA6 C.sh C.pr.hp, pA7 C.sh C.pr.hp, pA8 C.sh C.pr.hp, pA9 C.sh C.pr.hp, pN C.pr.hp, pN0 C.pr.hp, iR_t, Int.reduceAdd, ↓c_wantedHolder' C T F, c1, c2, c3, wr_n, ↓e_cl e, F.vr]
        · rw [if_neg c3, if_neg c3, show becF (zu f (238 + 3 * k) 2) k 1 (wantF t f k) = becF f k 1 (wantF t f k) by unfold becF; rw [zu_zu]]; exact C3
        · rw [if_neg c3, if_neg c3, show becF (zu f (238 + 3 * k) 2) k 1 (wantF t f k) = becF f k 1 (wantF t f k) by unfold becF; rw [zu_zu]]; exact V2.hap F2.ev (by omega) (by omega)
        · exact Fr.tr (fun o ho => by simp (disch := omega) only [wr_o]) fr
    · rw [if_neg c2]
      refine ⟨wr σ 31 k 2, ?_, C.zmo T F V h0 h1, V.zu (by omega), fun o ho => by simp (disch := omega) only [wr_o]⟩
      simp (disch := first | omega | assumption) only [fX2_settleHeld, ↓z_lt, ↓z_ge, ↓z_gt, ↓z_le, ↓z_eq, ↓z_ne, ↓z_mx, ↓z_mn, ↓z_dv, ↓z_rm, ↓z_i2l, ↓z_lc, ↓z_sw, ↓z_sf, ↓z_sn, ↓z_bd, ↓z_nt, z_b0, z_b1, z_bi, z_bj, ↓z_gF, ↓z_gR, ↓z_pF, ↓z_pZ, ↓z_pR, ↓z_aI, ↓z_aR, ↓z_sI, ↓z_sZ, ↓z_on, z_cl, ↓reduceIte, Int.reduceEq, Int.reduceNeg, Int.reduceLT, Int.reduceLE, Int.reduceAdd, Int.reduceSub, Int.reduceMul, true_and, and_true, or_true, true_or, eq_self, C.h0, C.h1, C.p2, C.p3, C.p4, C.p5, C.p6, C.p7, C.p8, C.p9, C.e0, C.e1, C.e2, C.e4, C.e5, C.l2, C.l3, C.l4, C.l5, C.pr.r7, C.pr.r8, C.pr.r9, C.pr.r10, C.pr.r11, C.pr.r12, C.pr.r13, C.pr.r14, C.pr.r15, C.pr.v0, C.pr.v1, C.pr.v2, C.pr.v3, C.pr.v4, C.pr.v5, C.pr.v6, C.pr.we, C.pr.wi, C.pr.pe, C.pr.fp, C.pr.he, C.pr.ho, C.pr.ra, C.pr.pa, C.tm, C.sc, C.po, C.al, C.ho, C.mo, C.dn, C.se, C.ke, C.ca, C.co, sO16 C.sh, sO27 C.sh, sO34 C.sh, sO40 C.sh, sA28 C.sh, sA29 C.sh, sA30 C.sh, sA31 C.sh, sA32 C.sh, sA33 C.sh, sA35 C.sh, sA36 C.sh, sA37 C.sh, sA38 C.sh, sA39 C.sh, sA41 C.sh, sA42 C.sh, sA43 C.sh, sA44 C.sh, pO C.sh C.pr.hp, pA1 C.sh C.pr.hp, pA2 C.sh C.pr.hp, pA3 C.sh C.pr.hp, pA4 C.sh C.pr.hp, pA5 C.sh C.pr.hp, pA6 C.sh C.pr.hp, pA7 C.sh C.pr.hp, pA8 C.sh C.pr.hp, pA9 C.sh C.pr.hp, pN C.pr.hp, pN0 C.pr.hp, iR_t, Int.reduceAdd, ↓c_wantedHolder' C T F, c1, c2, F.vr]
theorem sum_in (q q' : Int → Int) (c δ : Int) (N : Nat) (h1 : q' c = q c + δ) (h2 : ∀ x, 0 ≤ x → x < (N : Int) → x ≠ c → q' x = q x) (h0 : 0 ≤ c) : ∀ n : Nat, n ≤ N → forI (fun c a => a + q' c) n 0 = forI (fun c a => a + q c) n 0 + (if c < (n : Int) then δ else 0)
  | 0, _ => by show (0 : Int) = 0 + _; rw [if_neg (by push_cast; omega)]; rfl
  | n + 1, hn => by
    have i1 := sum_in q q' c δ N h1 h2 h0 n (by omega)
    show forI (fun c a => a + q' c) n 0 + q' (n : Int) = forI (fun c a => a + q c) n 0 + q (n : Int) + _
    rw [i1]
    by_cases e : (n : Int) = c
    · rw [e, h1, if_neg (by omega), if_pos (by push_cast; omega)]; omega
    · rw [h2 _ (by omega) (by push_cast; omega) e]
      by_cases e2 : c < (n : Int)
      · rw [if_pos e2, if_pos (by push_cast; omega)]; omega
      · rw [if_neg e2, if_neg (by push_cast; omega)]; omega
theorem resvF_w (T : TV t) (F : FV B t f g) (h0 : 0 ≤ k) (h1 : k < t 2) (hz : f (238 + 3 * k) = 0) : resvF t (hapF (becF f k 1 h) 6 k) = resvF t f + t (71 + 3 * k + 1) := by
  have n2 := T.n2
  have e12 : 0 ≤ becF f k 1 h 12 := by unfold becF; simp (disch := omega) only [zu_n]; exact F.ev
  have s := sum_in (fun k => if f (238 + 3 * k) = 0 then 0 else t (71 + 3 * k + 1)) (fun j => if hapF (becF f k 1 h) 6 k (238 + 3 * j) = 0 then 0 else t (71 + 3 * j + 1)) k (t (71 + 3 * k + 1)) (t 2).toNat (by
      rw [hapF_o e12 (by omega) (by omega) (by omega) (by omega)]
      unfold becF
      rw [zu_n (by omega), zu_s, hz]
      rw [if_neg (by omega), if_pos rfl]; omega) (fun x x0 x1 x2 => by
      rw [hapF_o e12 (by omega) (by omega) (by omega) (by omega)]
      unfold becF
      rw [zu_n (by omega), zu_n (by omega)]) h0 (t 2).toNat (Nat.le_refl _)
  rw [if_pos (by omega)] at s
  exact s
theorem c_settle (C : CR P σ p t f g) (T : TV t) (F : FV B t f g) (V : CV f) (h4 : 12 ≤ B) (hB : B ≤ 1999999900) :
    ∃ σ', fX2_settle P σ 16 = some σ' ∧ CR P σ' p t (setF t f) g ∧ CV (setF t f) ∧ Fr σ σ' := by
  have n1 := T.n1; have n2 := T.n2; have MN := F.mn; have CL := V.le; have CI := fun c => couK_in (f := f) (c := c) V.c0
  have hN := T.n2N
  have l1 := loop_r (fun m k (s : St) => fX2_settle_L2 P 16 (fun s9 =>
      gR P 2 s9 16 0 fun x10 =>
      gF P 4 s9 x10 0 fun x11 =>
      onO P 2 16 <| cl (fX2_reserved P s9 16) fun x12 =>
      bd (x11 - x12) fun x13 =>
      fX2_settle_L51 P 16
        (fun s42 =>
          some s42)
        1000 x13 0 s9) m k s) (fun s9 =>
      gR P 2 s9 16 0 fun x10 =>
      gF P 4 s9 x10 0 fun x11 =>
      onO P 2 16 <| cl (fX2_reserved P s9 16) fun x12 =>
      bd (x11 - x12) fun x13 =>
      fX2_settle_L51 P 16
        (fun s42 =>
          some s42)
        1000 x13 0 s9) (t 2).toNat (fun k a => if a (238 + 3 * k) = 0 then a else seHF t a k) (fun k s a => CR P s p t a g ∧ FV (B + (k : Int)) t a g ∧ CV a ∧ Fr σ s)
    (fun k m s a hk hI => by
      obtain ⟨C, G, V, fr⟩ := hI
      have hk2 : ¬ (t 2 ≤ (k : Int)) := by omega
      by_cases c : a (238 + 3 * (k : Int)) = 0
      · refine ⟨s, ?_, ?_⟩
        · simp (disch := first | omega | assumption) only [fX2_settle_L2, ↓z_lt, ↓z_ge, ↓z_gt, ↓z_le, ↓z_eq, ↓z_ne, ↓z_mx, ↓z_mn, ↓z_dv, ↓z_rm, ↓z_i2l, ↓z_lc, ↓z_sw, ↓z_sf, ↓z_sn, ↓z_bd, ↓z_nt, z_b0, z_b1, z_bi, z_bj, ↓z_gF, ↓z_gR, ↓z_pF, ↓z_pZ, ↓z_pR, ↓z_aI, ↓z_aR, ↓z_sI, ↓z_sZ, ↓z_on, z_cl, ↓reduceIte, Int.reduceEq, Int.reduceNeg, Int.reduceLT, Int.reduceLE, Int.reduceAdd, Int.reduceSub, Int.reduceMul, true_and, and_true, or_true, true_or, eq_self, C.h0, C.h1, C.p2, C.p3, C.p4, C.p5, C.p6, C.p7, C.p8, C.p9, C.e0, C.e1, C.e2, C.e4, C.e5, C.l2, C.l3, C.l4, C.l5, C.pr.r7, C.pr.r8, C.pr.r9, C.pr.r10, C.pr.r11, C.pr.r12, C.pr.r13, C.pr.r14, C.pr.r15, C.pr.v0, C.pr.v1, C.pr.v2, C.pr.v3, C.pr.v4, C.pr.v5, C.pr.v6, C.pr.we, C.pr.wi, C.pr.pe, C.pr.fp, C.pr.he, C.pr.ho, C.pr.ra, C.pr.pa, C.tm, C.sc, C.po, C.al, C.ho, C.mo, C.dn, C.se, C.ke, C.ca, C.co, sO16 C.sh, sO27 C.sh, sO34 C.sh, sO40 C.sh, sA28 C.sh, sA29 C.sh, sA30 C.sh, sA31 C.sh, sA32 C.sh, sA33 C.sh, sA35 C.sh, sA36 C.sh, sA37 C.sh, sA38 C.sh, sA39 C.sh, sA41 C.sh, sA42 C.sh, sA43 C.sh, sA44 C.sh, pO C.sh C.pr.hp, pA1 C.sh C.pr.hp, pA2 C.sh C.pr.hp, pA3 C.sh C.pr.hp, pA4 C.sh C.pr.hp, pA5 C.sh C.pr.hp, pA6 C.sh C.pr.hp, pA7 C.sh C.pr.hp, pA8 C.sh C.pr.hp, pA9 C.sh C.pr.hp, pN C.pr.hp, pN0 C.pr.hp, iR_t, Int.reduceAdd, hk2, c, T.vr]
        · rw [if_pos c]; exact ⟨C, G.mono (by push_cast; omega) (by push_cast; omega), V, fr⟩
      · obtain ⟨s', e, C2, V2, fr2⟩ := c_settleHeld C T G V (k := (k : Int)) (by omega) (by omega) c (by omega)
        refine ⟨s', ?_, ?_⟩
        · simp (disch := first | omega | assumption) only [fX2_settle_L2, ↓z_lt, ↓z_ge, ↓z_gt, ↓z_le, ↓z_eq, ↓z_ne, ↓z_mx, ↓z_mn, ↓z_dv, ↓z_rm, ↓z_i2l, ↓z_lc, ↓z_sw, ↓z_sf, ↓z_sn, ↓z_bd, ↓z_nt, z_b0, z_b1, z_bi, z_bj, ↓z_gF, ↓z_gR, ↓z_pF, ↓z_pZ, ↓z_pR, ↓z_aI, ↓z_aR, ↓z_sI, ↓z_sZ, ↓z_on, z_cl, ↓reduceIte, Int.reduceEq, Int.reduceNeg, Int.reduceLT, Int.reduceLE, Int.reduceAdd, Int.reduceSub, Int.reduceMul, true_and, and_true, or_true, true_or, eq_self, C.h0, C.h1, C.p2, C.p3, C.p4, C.p5, C.p6, C.p7, C.p8, C.p9, C.e0, C.e1, C.e2, C.e4, C.e5, C.l2, C.l3, C.l4, C.l5, C.pr.r7, C.pr.r8, C.pr.r9, C.pr.r10, C.pr.r11, C.pr.r12, C.pr.r13, C.pr.r14, C.pr.r15, C.pr.v0, C.pr.v1, C.pr.v2, C.pr.v3, C.pr.v4, C.pr.v5, C.pr.v6, C.pr.we, C.pr.wi, C.pr.pe, C.pr.fp, C.pr.he, C.pr.ho, C.pr.ra, C.pr.pa, C.tm, C.sc, C.po, C.al, C.ho, C.mo, C.dn, C.se, C.ke, C.ca, C.co, sO16 C.sh, sO27 C.sh, sO34 C.sh, sO40 C.sh, sA28 C.sh, sA29 C.sh, sA30 C.sh, sA31 C.sh, sA32 C.sh, sA33 C.sh, sA35 C.sh, sA36 C.sh, sA37 C.sh, sA38 C.sh, sA39 C.sh, sA41 C.sh, sA42 C.sh, sA43 C.sh, sA44 C.sh, pO C.sh C.pr.hp, pA1 C.sh C.pr.hp, pA2 C.sh C.pr.hp, pA3 C.sh C.pr.hp, pA4 C.sh C.pr.hp, pA5 C.sh C.pr.hp, pA6 C.sh C.pr.hp, pA7 C.sh C.pr.hp, pA8 C.sh C.pr.hp, pA9 C.sh C.pr.hp, pN C.pr.hp, pN0 C.pr.hp, iR_t, Int.reduceAdd, ↓e_cl e, hk2, c, T.vr, G.vr]
        · rw [if_neg c]
          have G2 := G.seH T (k := (k : Int)) (by omega) (by omega) c (by omega) (by omega)
          exact ⟨C2, by rw [show B + ((k + 1 : Nat) : Int) = B + (k : Int) + 1 by push_cast; omega]; exact G2, V2, fr.tr fr2⟩)
    (fun m s a hI => by
      obtain ⟨C, G, V, fr⟩ := hI
      simp (disch := first | omega | assumption) only [fX2_settle_L2, ↓z_lt, ↓z_ge, ↓z_gt, ↓z_le, ↓z_eq, ↓z_ne, ↓z_mx, ↓z_mn, ↓z_dv, ↓z_rm, ↓z_i2l, ↓z_lc, ↓z_sw, ↓z_sf, ↓z_sn, ↓z_bd, ↓z_nt, z_b0, z_b1, z_bi, z_bj, ↓z_gF, ↓z_gR, ↓z_pF, ↓z_pZ, ↓z_pR, ↓z_aI, ↓z_aR, ↓z_sI, ↓z_sZ, ↓z_on, z_cl, ↓reduceIte, Int.reduceEq, Int.reduceNeg, Int.reduceLT, Int.reduceLE, Int.reduceAdd, Int.reduceSub, Int.reduceMul, true_and, and_true, or_true, true_or, eq_self, C.h0, C.h1, C.p2, C.p3, C.p4, C.p5, C.p6, C.p7, C.p8, C.p9, C.e0, C.e1, C.e2, C.e4, C.e5, C.l2, C.l3, C.l4, C.l5, C.pr.r7, C.pr.r8, C.pr.r9, C.pr.r10, C.pr.r11, C.pr.r12, C.pr.r13, C.pr.r14, C.pr.r15, C.pr.v0, C.pr.v1, C.pr.v2, C.pr.v3, C.pr.v4, C.pr.v5, C.pr.v6, C.pr.we, C.pr.wi, C.pr.pe, C.pr.fp, C.pr.he, C.pr.ho, C.pr.ra, C.pr.pa, C.tm, C.sc, C.po, C.al, C.ho, C.mo, C.dn, C.se, C.ke, C.ca, C.co, sO16 C.sh, sO27 C.sh, sO34 C.sh, sO40 C.sh, sA28 C.sh, sA29 C.sh, sA30 C.sh, sA31 C.sh, sA32 C.sh, sA33 C.sh, sA35 C.sh, sA36 C.sh, sA37 C.sh, sA38 C.sh, sA39 C.sh, sA41 C.sh, sA42 C.sh, sA43 C.sh, sA44 C.sh, pO C.sh C.pr.hp, pA1 C.sh C.pr.hp, pA2 C.sh C.pr.hp, pA3 C.sh C.pr.hp, pA4 C.sh C.pr.hp, pA5 C.sh C.pr.hp, pA6 C.sh C.pr.hp, pA7 C.sh C.pr.hp, pA8 C.sh C.pr.hp, pA9 C.sh C.pr.hp, pN C.pr.hp, pN0 C.pr.hp, iR_t, Int.reduceAdd, hN, Int.le_refl, T.vr]) (m := 1000) (a := σ) (c := f) (by omega) ⟨C, by simpa using F, V, Fr.rf⟩
  obtain ⟨σ1, e1, C1, F1, V1, fr1⟩ := l1
  unfold setF se1F
  unfold fX2_settle
  generalize forI (fun k a => if a (238 + 3 * k) = 0 then a else seHF t a k) (t 2).toNat f = f1 at C1 F1 V1
  have l2 := loop_r (fun m k (a : Int × St) => fX2_settle_L51 P 16 (fun s42 => some s42) m a.1 k a.2) (fun a => some a.2) (t 2).toNat (fun k a => seWF t a k) (fun k s a => CR P s.2 p t a g ∧ FV (B + 12 + (k : Int)) t a g ∧ CV a ∧ Fr σ s.2 ∧ s.1 = t 3 - resvF t a)
    (fun k m s a hk hI => by
      obtain ⟨C, G, V, fr, hf⟩ := hI
      obtain ⟨fr0, s⟩ := s
      dsimp only at C fr hf
      subst hf
      have hk2 : ¬ (t 2 ≤ (k : Int)) := by omega
      have w := wantF_in (f := a) (k := (k : Int)) T (by omega) (by omega)
      have rv := resvF_in (f := a) T
      have tb := T.b 3
      have tr := T.vr (71 + 3 * (k : Int) + 1)
      have GW := G.seW T (k := (k : Int)) (by omega) (by omega) (by omega) (by omega)
      rw [show B + 12 + (k : Int) + 1 = B + 12 + ((k + 1 : Nat) : Int) by push_cast; omega] at GW
      unfold seWF at GW ⊢
      by_cases c : a (238 + 3 * (k : Int)) = 0
      · by_cases c2 : wantF t a k = -1
        · refine ⟨(t 3 - resvF t a, s), ?_, ?_⟩
          · simp (disch := first | omega | assumption) only [fX2_settle_L51, ↓z_lt, ↓z_ge, ↓z_gt, ↓z_le, ↓z_eq, ↓z_ne, ↓z_mx, ↓z_mn, ↓z_dv, ↓z_rm, ↓z_i2l, ↓z_lc, ↓z_sw, ↓z_sf, ↓z_sn, ↓z_bd, ↓z_nt, z_b0, z_b1, z_bi, z_bj, ↓z_gF, ↓z_gR, ↓z_pF, ↓z_pZ, ↓z_pR, ↓z_aI, ↓z_aR, ↓z_sI, ↓z_sZ, ↓z_on, z_cl, ↓reduceIte, Int.reduceEq, Int.reduceNeg, Int.reduceLT, Int.reduceLE, Int.reduceAdd, Int.reduceSub, Int.reduceMul, true_and, and_true, or_true, true_or, eq_self, C.h0, C.h1, C.p2, C.p3, C.p4, C.p5, C.p6, C.p7, C.p8, C.p9, C.e0, C.e1, C.e2, C.e4, C.e5, C.l2, C.l3, C.l4, C.l5, C.pr.r7, C.pr.r8, C.pr.r9, C.pr.r10, C.pr.r11, C.pr.r12, C.pr.r13, C.pr.r14, C.pr.r15, C.pr.v0, C.pr.v1, C.pr.v2, C.pr.v3, C.pr.v4, C.pr.v5, C.pr.v6, C.pr.we, C.pr.wi, C.pr.pe, C.pr.fp, C.pr.he, C.pr.ho, C.pr.ra, C.pr.pa, C.tm, C.sc, C.po, C.al, C.ho, C.mo, C.dn, C.se, C.ke, C.ca, C.co, sO16 C.sh, sO27 C.sh, sO34 C.sh, sO40 C.sh, sA28 C.sh, sA29 C.sh, sA30 C.sh, sA31 C.sh, sA32 C.sh, sA33 C.sh, sA35 C.sh, sA36 C.sh, sA37 C.sh, sA38 C.sh, sA39 C.sh, sA41 C.sh, sA42 C.sh, sA43 C.sh, sA44 C.sh, pO C.sh C.pr.hp, pA1 C.sh C.pr.hp, pA2 C.sh C.pr.hp, pA3 C.sh C.pr.hp, pA4 C.sh C.pr.hp, pA5 C.sh C.pr.hp, pA6 C.sh C.pr.hp, pA7 C.sh C.pr.hp, pA8 C.sh C.pr.hp, pA9 C.sh C.pr.hp, pN C.pr.hp, pN0 C.pr.hp, iR_t, Int.reduceAdd, ↓c_wantedHolder' C T G, hk2, c, c2, T.vr, G.vr]
          · rw [if_pos c, if_pos c2] at GW ⊢; exact ⟨C, GW, V, fr, rfl⟩
        · by_cases c3 : t (71 + 3 * (k : Int) + 1) ≤ t 3 - resvF t a
          · have c4 : ¬ (t 3 - resvF t a < t (71 + 3 * (k : Int) + 1)) := by omega
            have F2 := G.bec T (k := (k : Int)) (m := 1) (h := wantF t a k) (by omega) (by omega) (Or.inr ⟨Or.inl rfl, by omega, by omega⟩) (by omega)
            have C2 := C.bec T G V (k := (k : Int)) (by omega) (by omega) (m := 1) (h := wantF t a k)
            have V2 := V.bec T (k := (k : Int)) (by omega) (by omega) (m := 1) (h := wantF t a k)
            obtain ⟨s', e, C3, fr3⟩ := c_add C2 T F2 V2 (kind := 6) (who := k) (by omega) (by omega)
            rw [show becF a k 1 (wantF t a k) 0 = a 0 by unfold becF; simp (disch := omega) only [zu_n]] at e
            refine ⟨(t 3 - resvF t a - t (71 + 3 * (k : Int) + 1), s'), ?_, ?_⟩
            · simp (disch := first | omega | assumption) only [fX2_settle_L51, ↓z_lt, ↓z_ge, ↓z_gt, ↓z_le, ↓z_eq, ↓z_ne, ↓z_mx, ↓z_mn, ↓z_dv, ↓z_rm, ↓z_i2l, ↓z_lc, ↓z_sw, ↓z_sf, ↓z_sn, ↓z_bd, ↓z_nt, z_b0, z_b1, z_bi, z_bj, ↓z_gF, ↓z_gR, ↓z_pF, ↓z_pZ, ↓z_pR, ↓z_aI, ↓z_aR, ↓z_sI, ↓z_sZ, ↓z_on, z_cl, ↓reduceIte, Int.reduceEq, Int.reduceNeg, Int.reduceLT, Int.reduceLE, Int.reduceAdd, Int.reduceSub, Int.reduceMul, true_and, and_true, or_true, true_or, eq_self, C.h0, C.h1, C.p2, C.p3, C.p4, C.p5, C.p6, C.p7, C.p8, C.p9, C.e0, C.e1, C.e2, C.e4, C.e5, C.l2, C.l3, C.l4, C.l5, C.pr.r7, C.pr.r8, C.pr.r9, C.pr.r10, C.pr.r11, C.pr.r12, C.pr.r13, C.pr.r14, C.pr.r15, C.pr.v0, C.pr.v1, C.pr.v2, C.pr.v3, C.pr.v4, C.pr.v5, C.pr.v6, C.pr.we, C.pr.wi, C.pr.pe, C.pr.fp, C.pr.he, C.pr.ho, C.pr.ra, C.pr.pa, C.tm, C.sc, C.po, C.al, C.ho, C.mo, C.dn, C.se, C.ke, C.ca, C.co, sO16 C.sh, sO27 C.sh, sO34 C.sh, sO40 C.sh, sA28 C.sh, sA29 C.sh, sA30 C.sh, sA31 C.sh, sA32 C.sh, sA33 C.sh, sA35 C.sh, sA36 C.sh, sA37 C.sh, sA38 C.sh, sA39 C.sh, sA41 C.sh, sA42 C.sh, sA43 C.sh, sA44 C.sh, pO C.sh C.pr.hp, pA1 C.sh C.pr.hp, pA2 C.sh C.pr.hp, pA3 C.sh C.pr.hp, pA4 C.sh C.pr.hp, pA5 C.sh C.pr.hp, pA6 C.sh C.pr.hp, pA7 C.sh C.pr.hp, pA8 C.sh C.pr.hp, pA9 C.sh C.pr.hp, pN C.pr.hp, pN0 C.pr.hp, iR_t, Int.reduceAdd, ↓c_wantedHolder' C T G, ↓e_cl e, hk2, c, c2, c3, c4, T.vr, G.vr, wr_n]
            · rw [if_pos c, if_neg c2, if_pos c3] at GW ⊢
              refine ⟨C3, GW, V2.hap F2.ev (by omega) (by omega), (fr.tr (fun o ho => by simp (disch := omega) only [wr_o])).tr fr3, ?_⟩
              rw [resvF_w T G (by omega) (by omega) c]
              show t 3 - resvF t a - t (71 + 3 * (k : Int) + 1) = _
              omega
          · have c4 : t 3 - resvF t a < t (71 + 3 * (k : Int) + 1) := by omega
            refine ⟨(t 3 - resvF t a, s), ?_, ?_⟩
            · simp (disch := first | omega | assumption) only [fX2_settle_L51, ↓z_lt, ↓z_ge, ↓z_gt, ↓z_le, ↓z_eq, ↓z_ne, ↓z_mx, ↓z_mn, ↓z_dv, ↓z_rm, ↓z_i2l, ↓z_lc, ↓z_sw, ↓z_sf, ↓z_sn, ↓z_bd, ↓z_nt, z_b0, z_b1, z_bi, z_bj, ↓z_gF, ↓z_gR, ↓z_pF, ↓z_pZ, ↓z_pR, ↓z_aI, ↓z_aR, ↓z_sI, ↓z_sZ, ↓z_on, z_cl, ↓reduceIte, Int.reduceEq, Int.reduceNeg, Int.reduceLT, Int.reduceLE, Int.reduceAdd, Int.reduceSub, Int.reduceMul, true_and, and_true, or_true, true_or, eq_self, C.h0, C.h1, C.p2, C.p3, C.p4, C.p5, C.p6, C.p7, C.p8, C.p9, C.e0, C.e1, C.e2, C.e4, C.e5, C.l2, C.l3, C.l4, C.l5, C.pr.r7, C.pr.r8, C.pr.r9, C.pr.r10, C.pr.r11, C.pr.r12, C.pr.r13, C.pr.r14, C.pr.r15, C.pr.v0, C.pr.v1, C.pr.v2, C.pr.v3, C.pr.v4, C.pr.v5, C.pr.v6, C.pr.we, C.pr.wi, C.pr.pe, C.pr.fp, C.pr.he, C.pr.ho, C.pr.ra, C.pr.pa, C.tm, C.sc, C.po, C.al, C.ho, C.mo, C.dn, C.se, C.ke, C.ca, C.co, sO16 C.sh, sO27 C.sh, sO34 C.sh, sO40 C.sh, sA28 C.sh, sA29 C.sh, sA30 C.sh, sA31 C.sh, sA32 C.sh, sA33 C.sh, sA35 C.sh, sA36 C.sh, sA37 C.sh, sA38 C.sh, sA39 C.sh, sA41 C.sh, sA42 C.sh, sA43 C.sh, sA44 C.sh, pO C.sh C.pr.hp, pA1 C.sh C.pr.hp, pA2 C.sh C.pr.hp, pA3 C.sh C.pr.hp, pA4 C.sh C.pr.hp, pA5 C.sh C.pr.hp, pA6 C.sh C.pr.hp, pA7 C.sh C.pr.hp, pA8 C.sh C.pr.hp, pA9 C.sh C.pr.hp, pN C.pr.hp, pN0 C.pr.hp, iR_t, Int.reduceAdd, ↓c_wantedHolder' C T G, hk2, c, c2, c3, c4, T.vr, G.vr]
            · rw [if_pos c, if_neg c2, if_neg c3] at GW ⊢; exact ⟨C, GW, V, fr, rfl⟩
      · refine ⟨(t 3 - resvF t a, s), ?_, ?_⟩
        · simp (disch := first | omega | assumption) only [fX2_settle_L51, ↓z_lt, ↓z_ge, ↓z_gt, ↓z_le, ↓z_eq, ↓z_ne, ↓z_mx, ↓z_mn, ↓z_dv, ↓z_rm, ↓z_i2l, ↓z_lc, ↓z_sw, ↓z_sf, ↓z_sn, ↓z_bd, ↓z_nt, z_b0, z_b1, z_bi, z_bj, ↓z_gF, ↓z_gR, ↓z_pF, ↓z_pZ, ↓z_pR, ↓z_aI, ↓z_aR, ↓z_sI, ↓z_sZ, ↓z_on, z_cl, ↓reduceIte, Int.reduceEq, Int.reduceNeg, Int.reduceLT, Int.reduceLE, Int.reduceAdd, Int.reduceSub, Int.reduceMul, true_and, and_true, or_true, true_or, eq_self, C.h0, C.h1, C.p2, C.p3, C.p4, C.p5, C.p6, C.p7, C.p8, C.p9, C.e0, C.e1, C.e2, C.e4, C.e5, C.l2, C.l3, C.l4, C.l5, C.pr.r7, C.pr.r8, C.pr.r9, C.pr.r10, C.pr.r11, C.pr.r12, C.pr.r13, C.pr.r14, C.pr.r15, C.pr.v0, C.pr.v1, C.pr.v2, C.pr.v3, C.pr.v4, C.pr.v5, C.pr.v6, C.pr.we, C.pr.wi, C.pr.pe, C.pr.fp, C.pr.he, C.pr.ho, C.pr.ra, C.pr.pa, C.tm, C.sc, C.po, C.al, C.ho, C.mo, C.dn, C.se, C.ke, C.ca, C.co, sO16 C.sh, sO27 C.sh, sO34 C.sh, sO40 C.sh, sA28 C.sh, sA29 C.sh, sA30 C.sh, sA31 C.sh, sA32 C.sh, sA33 C.sh, sA35 C.sh, sA36 C.sh, sA37 C.sh, sA38 C.sh, sA39 C.sh, sA41 C.sh, sA42 C.sh, sA43 C.sh, sA44 C.sh, pO C.sh C.pr.hp, pA1 C.sh C.pr.hp, pA2 C.sh C.pr.hp, pA3 C.sh C.pr.hp, pA4 C.sh C.pr.hp, pA5 C.sh C.pr.hp, pA6 C.sh C.pr.hp, pA7 C.sh C.pr.hp, pA8 C.sh C.pr.hp, pA9 C.sh C.pr.hp, pN C.pr.hp, pN0 C.pr.hp, iR_t, Int.reduceAdd, ↓c_wantedHolder' C T G, hk2, c, T.vr, G.vr]
        · rw [if_neg c] at GW ⊢; exact ⟨C, GW, V, fr, rfl⟩)
    (fun m s a hI => by
      obtain ⟨C, G, V, fr, hf⟩ := hI
      simp (disch := first | omega | assumption) only [fX2_settle_L51, ↓z_lt, ↓z_ge, ↓z_gt, ↓z_le, ↓z_eq, ↓z_ne, ↓z_mx, ↓z_mn, ↓z_dv, ↓z_rm, ↓z_i2l, ↓z_lc, ↓z_sw, ↓z_sf, ↓z_sn, ↓z_bd, ↓z_nt, z_b0, z_b1, z_bi, z_bj, ↓z_gF, ↓z_gR, ↓z_pF, ↓z_pZ, ↓z_pR, ↓z_aI, ↓z_aR, ↓z_sI, ↓z_sZ, ↓z_on, z_cl, ↓reduceIte, Int.reduceEq, Int.reduceNeg, Int.reduceLT, Int.reduceLE, Int.reduceAdd, Int.reduceSub, Int.reduceMul, true_and, and_true, or_true, true_or, eq_self, C.h0, C.h1, C.p2, C.p3, C.p4, C.p5, C.p6, C.p7, C.p8, C.p9, C.e0, C.e1, C.e2, C.e4, C.e5, C.l2, C.l3, C.l4, C.l5, C.pr.r7, C.pr.r8, C.pr.r9, C.pr.r10, C.pr.r11, C.pr.r12, C.pr.r13, C.pr.r14, C.pr.r15, C.pr.v0, C.pr.v1, C.pr.v2, C.pr.v3, C.pr.v4, C.pr.v5, C.pr.v6, C.pr.we, C.pr.wi, C.pr.pe, C.pr.fp, C.pr.he, C.pr.ho, C.pr.ra, C.pr.pa, C.tm, C.sc, C.po, C.al, C.ho, C.mo, C.dn, C.se, C.ke, C.ca, C.co, sO16 C.sh, sO27 C.sh, sO34 C.sh, sO40 C.sh, sA28 C.sh, sA29 C.sh, sA30 C.sh, sA31 C.sh, sA32 C.sh, sA33 C.sh, sA35 C.sh, sA36 C.sh, sA37 C.sh, sA38 C.sh, sA39 C.sh, sA41 C.sh, sA42 C.sh, sA43 C.sh, sA44 C.sh, pO C.sh C.pr.hp, pA1 C.sh C.pr.hp, pA2 C.sh C.pr.hp, pA3 C.sh C.pr.hp, pA4 C.sh C.pr.hp, pA5 C.sh C.pr.hp, pA6 C.sh C.pr.hp, pA7 C.sh C.pr.hp, pA8 C.sh C.pr.hp, pA9 C.sh C.pr.hp, pN C.pr.hp, pN0 C.pr.hp, iR_t, Int.reduceAdd, hN, Int.le_refl, T.vr]) (m := 1000) (a := (t 3 - resvF t f1, σ1)) (c := f1) (by omega) ⟨C1, F1.mono (by omega) (by push_cast; omega), V1, fr1, rfl⟩
  obtain ⟨a', e2, C2, F2, V2, fr2, -⟩ := l2
  refine ⟨a'.2, ?_, C2, V2, fr2⟩
  refine e1.trans ?_
  have C := C1
  simp (disch := first | omega | assumption) only [↓z_lt, ↓z_ge, ↓z_gt, ↓z_le, ↓z_eq, ↓z_ne, ↓z_mx, ↓z_mn, ↓z_dv, ↓z_rm, ↓z_i2l, ↓z_lc, ↓z_sw, ↓z_sf, ↓z_sn, ↓z_bd, ↓z_nt, z_b0, z_b1, z_bi, z_bj, ↓z_gF, ↓z_gR, ↓z_pF, ↓z_pZ, ↓z_pR, ↓z_aI, ↓z_aR, ↓z_sI, ↓z_sZ, ↓z_on, z_cl, ↓reduceIte, Int.reduceEq, Int.reduceNeg, Int.reduceLT, Int.reduceLE, Int.reduceAdd, Int.reduceSub, Int.reduceMul, true_and, and_true, or_true, true_or, eq_self, C.h0, C.h1, C.p2, C.p3, C.p4, C.p5, C.p6, C.p7, C.p8, C.p9, C.e0, C.e1, C.e2, C.e4, C.e5, C.l2, C.l3, C.l4, C.l5, C.pr.r7, C.pr.r8, C.pr.r9, C.pr.r10, C.pr.r11, C.pr.r12, C.pr.r13, C.pr.r14, C.pr.r15, C.pr.v0, C.pr.v1, C.pr.v2, C.pr.v3, C.pr.v4, C.pr.v5, C.pr.v6, C.pr.we, C.pr.wi, C.pr.pe, C.pr.fp, C.pr.he, C.pr.ho, C.pr.ra, C.pr.pa, C.tm, C.sc, C.po, C.al, C.ho, C.mo, C.dn, C.se, C.ke, C.ca, C.co, sO16 C.sh, sO27 C.sh, sO34 C.sh, sO40 C.sh, sA28 C.sh, sA29 C.sh, sA30 C.sh, sA31 C.sh, sA32 C.sh, sA33 C.sh, sA35 C.sh, sA36 C.sh, sA37 C.sh, sA38 C.sh, sA39 C.sh, sA41 C.sh, sA42 C.sh, sA43 C.sh, sA44 C.sh, pO C.sh C.pr.hp, pA1 C.sh C.pr.hp, pA2 C.sh C.pr.hp, pA3 C.sh C.pr.hp, pA4 C.sh C.pr.hp, pA5 C.sh C.pr.hp, pA6 C.sh C.pr.hp, pA7 C.sh C.pr.hp, pA8 C.sh C.pr.hp, pA9 C.sh C.pr.hp, pN C.pr.hp, pN0 C.pr.hp, iR_t, Int.reduceAdd, ↓c_reserved' C1 T F1]
  exact e2
end ZP
