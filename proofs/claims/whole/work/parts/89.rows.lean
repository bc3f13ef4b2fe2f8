/-! A ROW in the making. -/
section ZZQ
variable {P : Shp} {σ σ' σ0 σ1 σ2 s τ τ' τ0 τ1 τ2 : St} {f g h B B' d d' : Int → Int} {a b c e e' k i j x y z v v' w N q L kd cnt h1 s1 p : Int} {n m r : Int}
def unC (d : Int → Int) (m : Int) : Prop := 7 ≤ m ∧ m < 107 ∧ (m < 55 → 7 + 8 * d 0 ≤ m) ∧ (55 ≤ m → m < 63 → 55 + d 1 ≤ m) ∧ (63 ≤ m → m < 71 → 63 + d 1 ≤ m) ∧ (71 ≤ m → 71 + 3 * d 2 ≤ m)
theorem PR.by (h : PR σ q d) (T : TV d) (hc : q + 1 ≤ c ∧ c ≤ q + 9) (hm : unC d m) (h13 : c ≤ q + 3 → d 0 ≤ n) (h4 : c = q + 4 → 5 * d 0 ≤ n) (h56 : c = q + 5 ∨ c = q + 6 → d 1 ≤ n) (h79 : q + 7 ≤ c → d 2 ≤ n) : PR (wr σ c n v) q (zu d m v') := by
  obtain ⟨m7, m107, m1, m2, m3, m4⟩ := hm
  have n0 := T.n0
  have n1 := T.n1
  have n2 := T.n2
  have Z : ∀ j, j ≠ m → zu d m v' j = d j := fun j hj => zu_n hj
  have Wq : wr σ c n v q = σ q := wr_o (by omega)
  have W : ∀ a i, (c = a → i ≠ n) → wr σ c n v a i = σ a i := fun a i hi => by
    by_cases z : a = c
    · subst z; exact wr_i (hi rfl)
    · rw [wr_o z]
  refine ⟨h.hp, ?_, ?_, ?_, ?_, ?_, ?_, ?_, ?_, ?_, ?_, ?_, ?_, ?_, ?_, ?_, ?_, ?_, ?_, ?_, ?_, ?_, ?_, ?_, ?_, ?_⟩
  · rw [Wq]; exact h.r7
  · rw [Wq]; exact h.r8
  · rw [Wq]; exact h.r9
  · rw [Wq]; exact h.r10
  · rw [Wq]; exact h.r11
  · rw [Wq]; exact h.r12
  · rw [Wq]; exact h.r13
  · rw [Wq]; exact h.r14
  · rw [Wq]; exact h.r15
  · rw [Wq, Z _ (by omega)]; exact h.v0
  · rw [Wq, Z _ (by omega)]; exact h.v1
  · rw [Wq, Z _ (by omega)]; exact h.v2
  · rw [Wq, Z _ (by omega)]; exact h.v3
  · rw [Wq, Z _ (by omega)]; exact h.v4
  · rw [Wq, Z _ (by omega)]; exact h.v5
  · rw [Wq, Z _ (by omega)]; exact h.v6
  · intro i i0 i1; rw [Z 0 (by omega)] at i1; rw [W _ _ (by omega), Z _ (by omega)]; exact h.we i i0 i1
  · intro i i0 i1; rw [Z 0 (by omega)] at i1; rw [W _ _ (by omega), Z _ (by omega)]; exact h.wi i i0 i1
  · intro i i0 i1; rw [Z 0 (by omega)] at i1; rw [W _ _ (by omega), Z _ (by omega)]; exact h.pe i i0 i1
  · intro i j i0 i1 j0 j1
    rw [Z 0 (by omega)] at i1
    rw [Z _ (by omega)] at j1
    have := T.pe i i0 i1
    rw [W _ _ (by omega), Z _ (by omega)]; exact h.pk i j i0 i1 j0 j1
  · intro i i0 i1; rw [Z 1 (by omega)] at i1; rw [W _ _ (by omega), Z _ (by omega)]; exact h.fp i i0 i1
  · intro i i0 i1; rw [Z 1 (by omega)] at i1; rw [W _ _ (by omega), Z _ (by omega)]; exact h.he i i0 i1
  · intro i i0 i1; rw [Z 2 (by omega)] at i1; rw [W _ _ (by omega), Z _ (by omega)]; exact h.ho i i0 i1
  · intro i i0 i1; rw [Z 2 (by omega)] at i1; rw [W _ _ (by omega), Z _ (by omega)]; exact h.ra i i0 i1
  · intro i i0 i1; rw [Z 2 (by omega)] at i1; rw [W _ _ (by omega), Z _ (by omega)]; exact h.pa i i0 i1
theorem TV.by (T : TV d) (hm : unC d m) (hv : -1 ≤ v' ∧ v' ≤ 9999) : TV (zu d m v') := by
  obtain ⟨m7, m107, m1, m2, m3, m4⟩ := hm
  have n0 := T.n0
  have n1 := T.n1
  have n2 := T.n2
  have Z : ∀ j, j ≠ m → zu d m v' j = d j := fun j hj => zu_n hj
  refine ⟨fun j => ?_, by rw [Z _ (by omega)]; exact n0, by rw [Z _ (by omega)]; exact n1, by rw [Z _ (by omega)]; exact n2, by rw [Z _ (by omega)]; exact T.n4, ?_, ?_, ?_, ?_, ?_, ?_, ?_⟩
  · by_cases z : j = m
    · rw [zu_e z]; exact hv
    · rw [Z j z]; exact T.b j
  · intro p p0 p1; rw [Z 0 (by omega)] at p1; rw [Z _ (by omega)]; exact T.pe p p0 p1
  · intro p p0 p1; rw [Z 1 (by omega)] at p1 ⊢; rw [Z _ (by omega)]; exact T.he p p0 p1
  · intro p p0 p1; rw [Z 2 (by omega)] at p1; rw [Z 1 (by omega), Z _ (by omega)]; exact T.ho p p0 p1
  · intro p p0 p1; rw [Z 2 (by omega)] at p1; rw [Z _ (by omega)]; exact T.ra p p0 p1
  · intro p p0 p1; rw [Z 2 (by omega)] at p1; rw [Z _ (by omega)]; exact T.pa p p0 p1
  · intro p p0 p1; rw [Z 0 (by omega)] at p1; rw [Z _ (by omega)]; exact T.wi p p0 p1
  · intro p p0 p1; rw [Z 0 (by omega)] at p1; rw [Z _ (by omega)]; exact T.we p p0 p1
/-- one more cell of a row: class writes and goes on, the model has gone on and writes -/
theorem QQ.cell (Q : QQ P σ τ f N e q d) (hc : q + 1 ≤ c ∧ c ≤ q + 9) (hm : unC d m) (h13 : c ≤ q + 3 → d 0 ≤ n) (h4 : c = q + 4 → 5 * d 0 ≤ n) (h56 : c = q + 5 ∨ c = q + 6 → d 1 ≤ n) (h79 : q + 7 ≤ c → d 2 ≤ n) (hv : -1 ≤ v' ∧ v' ≤ 9999)
    (C : CT P σ' f N e') (o1 : ∀ o, o ≠ 1 → σ' o = wr σ c n v o) (j1 : ∀ j, (j < 3 ∨ 6 < j) → σ' 1 j = wr σ c n v 1 j) (M : MT P τ1 f N e') (o2 : ∀ o, o ≠ 265 → τ1 o = τ o) (j2 : ∀ j, (j < 4 ∨ 7 < j) → τ1 265 j = τ 265 j) (he : e' = e ∨ e' = tE f N e := by first | exact Or.inr rfl | exact Or.inl rfl) : QQ P σ' (wr τ1 267 m v') f N e' q (zu d m v') ∧ CFr q σ σ' ∧ MFr τ (wr τ1 267 m v') := by
  have hq := Q.pr.hp
  have hm' := hm
  obtain ⟨m7, m107, m1, m2, m3, m4⟩ := hm
  have J1 : ∀ j, (j < 3 ∨ 6 < j) → σ' 1 j = σ 1 j := fun j hj => by rw [j1 j hj, wr_n (by omega)]
  have J2 : ∀ j, (j < 4 ∨ 7 < j) → wr τ1 267 m v' 265 j = τ 265 j := fun j hj => by rw [wr_n (by omega), j2 j hj]
  have O1 : ∀ o, o ≠ 1 → o ≠ c → σ' o = σ o := fun o h1 h2 => by rw [o1 o h1, wr_o h2]
  have Z : ∀ j, j ≠ m → zu d m v' j = d j := fun j hj => zu_n hj
  refine ⟨⟨C, M.fr (fun j _ _ => wr_n (by omega)) (wr_o (by omega)), (Q.pr.by Q.tv hc hm' h13 h4 h56 h79).ag fun o _ _ => o1 o (by omega), Q.tv.by hm' hv, ?_, ?_, ?_, ?_, ?_, ?_, ?_, ?_, ?_, ?_, ?_, ?_, ?_, ?_⟩, ?_, ?_⟩
  · rw [J1 9 (by omega)]; exact Q.pl
  · rw [J1 11 (by omega)]; exact Q.n11
  · rw [J1 12 (by omega)]; exact Q.n12
  · rw [J1 13 (by omega)]; exact Q.n13
  · rw [J1 10 (by omega), J2 13 (by omega)]; exact Q.al
  · rw [J2 13 (by omega)]; exact Q.al2
  · rw [J2 10 (by omega)]; exact Q.m10
  · rw [J2 12 (by omega)]; exact Q.m12
  · intro j j0 j9
    by_cases z : j = m
    · subst z; rw [wr_s, zu_s]
    · rw [wr_i z, Z j z, o2 267 (by omega)]; exact Q.dd j j0 j9
  · rw [O1 13 (by omega) (by omega), wr_o (by omega), o2 269 (by omega), Z _ (by omega)]; exact Q.na0
  · rw [O1 14 (by omega) (by omega), wr_o (by omega), o2 269 (by omega), Z _ (by omega)]; exact Q.na1
  · rw [O1 15 (by omega) (by omega), wr_o (by omega), o2 269 (by omega), Z _ (by omega)]; exact Q.na2
  · rw [Z _ (by omega), Z _ (by omega), Z _ (by omega)]; exact Q.nn3
  · refine ⟨by rw [Z 3 (by omega)]; exact Q.np.1, fun k k0 k1 => ?_⟩
    have n1 := Q.tv.n1
    rw [Z 1 (by omega)] at k1
    rw [Z (55 + k) (by omega), Z 4 (by omega)]
    exact Q.np.2 k k0 k1
  · exact (CFr.wo (by omega) hq).tr (CFr.ad o1 j1 hq (by
      rw [wr_n (by omega)]
      rcases he with rfl | rfl
      · rw [Q.ct.ee, C.ee]; exact Int.le_refl _
      · exact Q.ct.le C))
  · exact (MFr.ad o2 j2).tr (MFr.wo (by omega))
/-- a stream more -/
theorem PR.in2 (h : PR σ q d) (a7 : σ (q + 7) (d 2) = d (71 + 3 * d 2)) (a8 : σ (q + 8) (d 2) = d (71 + 3 * d 2 + 1)) (a9 : σ (q + 9) (d 2) = d (71 + 3 * d 2 + 2)) (h0 : 0 ≤ d 2) : PR (wr σ q 6 (d 2 + 1)) q (zu d 2 (d 2 + 1)) := by
  have hp := h.hp
  have Z : ∀ j, j ≠ 2 → zu d 2 (d 2 + 1) j = d j := fun j hj => zu_n hj
  have Wo : ∀ o, o ≠ q → wr σ q 6 (d 2 + 1) o = σ o := fun o ho => wr_o ho
  have Wi : ∀ j, j ≠ 6 → wr σ q 6 (d 2 + 1) q j = σ q j := fun j hj => wr_i hj
  refine ⟨h.hp, ?_, ?_, ?_, ?_, ?_, ?_, ?_, ?_, ?_, ?_, ?_, ?_, ?_, ?_, ?_, ?_, ?_, ?_, ?_, ?_, ?_, ?_, ?_, ?_, ?_⟩
  · rw [Wi _ (by omega)]; exact h.r7
  · rw [Wi _ (by omega)]; exact h.r8
  · rw [Wi _ (by omega)]; exact h.r9
  · rw [Wi _ (by omega)]; exact h.r10
  · rw [Wi _ (by omega)]; exact h.r11
  · rw [Wi _ (by omega)]; exact h.r12
  · rw [Wi _ (by omega)]; exact h.r13
  · rw [Wi _ (by omega)]; exact h.r14
  · rw [Wi _ (by omega)]; exact h.r15
  · rw [Wi _ (by omega), Z _ (by omega)]; exact h.v0
  · rw [Wi _ (by omega), Z _ (by omega)]; exact h.v1
  · rw [Wi _ (by omega), Z _ (by omega)]; exact h.v2
  · rw [Wi _ (by omega), Z _ (by omega)]; exact h.v3
  · rw [Wi _ (by omega), Z _ (by omega)]; exact h.v4
  · rw [Wi _ (by omega), Z _ (by omega)]; exact h.v5
  · rw [wr_s, zu_s]
  · intro i i0 i1; rw [Z 0 (by omega)] at i1; rw [Wo _ (by omega), Z _ (by omega)]; exact h.we i i0 i1
  · intro i i0 i1; rw [Z 0 (by omega)] at i1; rw [Wo _ (by omega), Z _ (by omega)]; exact h.wi i i0 i1
  · intro i i0 i1; rw [Z 0 (by omega)] at i1; rw [Wo _ (by omega), Z _ (by omega)]; exact h.pe i i0 i1
  · intro i j i0 i1 j0 j1
    rw [Z 0 (by omega)] at i1
    rw [Z _ (by omega)] at j1
    rw [Wo _ (by omega), Z _ (by omega)]; exact h.pk i j i0 i1 j0 j1
  · intro i i0 i1; rw [Z 1 (by omega)] at i1; rw [Wo _ (by omega), Z _ (by omega)]; exact h.fp i i0 i1
  · intro i i0 i1; rw [Z 1 (by omega)] at i1; rw [Wo _ (by omega), Z _ (by omega)]; exact h.he i i0 i1
  · intro i i0 i1; rw [zu_s] at i1; rw [Wo _ (by omega), Z _ (by omega)]
    by_cases z : i = d 2
    · rw [z]; exact a7
    · exact h.ho i i0 (by omega)
  · intro i i0 i1; rw [zu_s] at i1; rw [Wo _ (by omega), Z _ (by omega)]
    by_cases z : i = d 2
    · rw [z]; exact a8
    · exact h.ra i i0 (by omega)
  · intro i i0 i1; rw [zu_s] at i1; rw [Wo _ (by omega), Z _ (by omega)]
    by_cases z : i = d 2
    · rw [z]; exact a9
    · exact h.pa i i0 (by omega)
theorem TV.in2 (T : TV d) (h12 : d 2 < 12) (a7 : 0 ≤ d (71 + 3 * d 2) ∧ d (71 + 3 * d 2) < d 1) (a8 : 1 ≤ d (71 + 3 * d 2 + 1) ∧ d (71 + 3 * d 2 + 1) ≤ 999) (a9 : 1 ≤ d (71 + 3 * d 2 + 2)) : TV (zu d 2 (d 2 + 1)) := by
  have n2 := T.n2
  have Z : ∀ j, j ≠ 2 → zu d 2 (d 2 + 1) j = d j := fun j hj => zu_n hj
  refine ⟨fun j => ?_, by rw [Z _ (by omega)]; exact T.n0, by rw [Z _ (by omega)]; exact T.n1, by rw [zu_s]; omega, by rw [Z _ (by omega)]; exact T.n4, ?_, ?_, ?_, ?_, ?_, ?_, ?_⟩
  · by_cases z : j = 2
    · rw [zu_e z]; omega
    · rw [Z j z]; exact T.b j
  · intro p p0 p1; rw [Z 0 (by omega)] at p1; rw [Z _ (by omega)]; exact T.pe p p0 p1
  · intro p p0 p1; rw [Z 1 (by omega)] at p1 ⊢; rw [Z _ (by omega)]; exact T.he p p0 p1
  · intro p p0 p1; rw [zu_s] at p1; rw [Z 1 (by omega), Z _ (by omega)]
    by_cases z : p = d 2
    · rw [z]; exact a7
    · exact T.ho p p0 (by omega)
  · intro p p0 p1; rw [zu_s] at p1; rw [Z _ (by omega)]
    by_cases z : p = d 2
    · rw [z]; exact a8
    · exact T.ra p p0 (by omega)
  · intro p p0 p1; rw [zu_s] at p1; rw [Z _ (by omega)]
    by_cases z : p = d 2
    · rw [z]; exact a9
    · exact T.pa p p0 (by omega)
  · intro p p0 p1; rw [Z 0 (by omega)] at p1; rw [Z _ (by omega)]; exact T.wi p p0 p1
  · intro p p0 p1; rw [Z 0 (by omega)] at p1; rw [Z _ (by omega)]; exact T.we p p0 p1
end ZZQ
