/-! A DEVICE more: bounds and relation. -/
section ZZT
variable {P : Shp} {σ σ' σ0 σ1 σ2 s τ τ' τ0 τ1 τ2 : St} {f g h B B' d d' : Int → Int} {a b c e e' k i j x y z v v' w N q L kd cnt h1 s1 p : Int} {n m r : Int}
theorem TV.in1 (T : TV d) (h8 : d 1 < 8) (b6 : -1 ≤ d (63 + d 1) ∧ d (63 + d 1) < d 1) : TV (zu d 1 (d 1 + 1)) := by
  have n1 := T.n1
  have Z : ∀ j, j ≠ 1 → zu d 1 (d 1 + 1) j = d j := fun j hj => zu_n hj
  refine ⟨fun j => ?_, by rw [Z _ (by omega)]; exact T.n0, by rw [zu_s]; omega, by rw [Z _ (by omega)]; exact T.n2, by rw [Z _ (by omega)]; exact T.n4, ?_, ?_, ?_, ?_, ?_, ?_, ?_⟩
  · by_cases z : j = 1
    · rw [zu_e z]; omega
    · rw [Z j z]; exact T.b j
  · intro p p0 p1; rw [Z 0 (by omega)] at p1; rw [Z _ (by omega)]; exact T.pe p p0 p1
  · intro p p0 p1; rw [zu_s] at p1 ⊢; rw [Z _ (by omega)]
    by_cases z : p = d 1
    · rw [z]; omega
    · have := T.he p p0 (by omega); omega
  · intro p p0 p1; rw [Z 2 (by omega)] at p1; rw [zu_s, Z _ (by omega)]; have := T.ho p p0 p1; omega
  · intro p p0 p1; rw [Z 2 (by omega)] at p1; rw [Z _ (by omega)]; exact T.ra p p0 p1
  · intro p p0 p1; rw [Z 2 (by omega)] at p1; rw [Z _ (by omega)]; exact T.pa p p0 p1
  · intro p p0 p1; rw [Z 0 (by omega)] at p1; rw [Z _ (by omega)]; exact T.wi p p0 p1
  · intro p p0 p1; rw [Z 0 (by omega)] at p1; rw [Z _ (by omega)]; exact T.we p p0 p1
theorem QQ.ic1 (Q : QQ P σ τ f N e q d) (h8 : d 1 < 8) (a5 : σ (q + 5) (d 1) = d (55 + d 1)) (a6 : σ (q + 6) (d 1) = d (63 + d 1)) (b5 : 0 ≤ d (55 + d 1) ∧ d (55 + d 1) < d 4) (b6 : -1 ≤ d (63 + d 1) ∧ d (63 + d 1) < d 1) (hn : NM (σ 14) (τ 269) 96 (d 1 + 1)) : QQ P (wr σ q 5 (d 1 + 1)) (wr τ 267 1 (d 1 + 1)) f N e q (zu d 1 (d 1 + 1)) := by
  have hq := Q.pr.hp
  have n1 := Q.tv.n1
  have Z : ∀ j, j ≠ 1 → zu d 1 (d 1 + 1) j = d j := fun j hj => zu_n hj
  refine ⟨Q.ct.fr (fun j _ _ => wr_n (by omega)) (wr_o (by omega)), Q.mt.fr (fun j _ _ => wr_n (by omega)) (wr_o (by omega)), Q.pr.in1 a5 a6 n1.1, Q.tv.in1 h8 b6, ?_, ?_, ?_, ?_, ?_, ?_, ?_, ?_, ?_, ?_, ?_, ?_, ?_, ?_⟩
  · rw [wr_n (by omega)]; exact Q.pl
  · rw [wr_n (by omega)]; exact Q.n11
  · rw [wr_n (by omega)]; exact Q.n12
  · rw [wr_n (by omega)]; exact Q.n13
  · rw [wr_n (by omega), wr_n (by omega)]; exact Q.al
  · rw [wr_n (by omega)]; exact Q.al2
  · rw [wr_n (by omega)]; exact Q.m10
  · rw [wr_n (by omega)]; exact Q.m12
  · intro j j0 j9
    by_cases z : j = 1
    · subst z; rw [wr_s, zu_s]
    · rw [wr_i z, Z j z]; exact Q.dd j j0 j9
  · rw [wr_o (by omega), wr_o (by omega), Z _ (by omega)]; exact Q.na0
  · rw [wr_o (by omega), wr_o (by omega), zu_s]; exact hn
  · rw [wr_o (by omega), wr_o (by omega), Z _ (by omega)]; exact Q.na2
  · rw [Z _ (by omega), Z _ (by omega), Z _ (by omega)]; exact Q.nn3
  · refine ⟨by rw [Z 3 (by omega)]; exact Q.np.1, fun k k0 k1 => ?_⟩
    rw [zu_s] at k1
    rw [Z (55 + k) (by omega), Z 4 (by omega)]
    by_cases z : k = d 1
    · rw [z]; exact b5
    · exact Q.np.2 k k0 (by omega)
end ZZT
