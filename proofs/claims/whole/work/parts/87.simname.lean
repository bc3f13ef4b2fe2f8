/-! A NEW NAME: the two readers together. -/
section ZZN
variable {P : Shp} {σ σ' σ0 σ1 σ2 s τ τ' τ0 τ1 τ2 : St} {f g h B B' d d' : Int → Int} {a b c e e' k i j x y z v w N q L kd cnt h1 s1 : Int} {n m r : Nat}
def naF (σ τ : St) (d : Int → Int) (a : Int) : Prop := NM (σ (13 + a)) (τ 269) (96 * a) (d a)
theorem QQ.na (Q : QQ P σ τ f N e q d) (ha : a = 0 ∨ a = 1 ∨ a = 2) : naF σ τ d a := by
  unfold naF
  rcases ha with rfl | rfl | rfl
  · exact Q.na0
  · exact Q.na1
  · exact Q.na2
theorem QQ.cn (Q : QQ P σ τ f N e q d) (ha : a = 0 ∨ a = 1 ∨ a = 2) : 0 ≤ d a ∧ d a ≤ 12 ∧ τ 267 a = d a := by
  have n0 := Q.tv.n0
  have n1 := Q.tv.n1
  have n2 := Q.tv.n2
  have := Q.dd a (by omega) (by omega)
  rcases ha with rfl | rfl | rfl
  · exact ⟨by omega, by omega, this⟩
  · exact ⟨by omega, by omega, this⟩
  · exact ⟨by omega, by omega, this⟩
/-- the relation over a change of the token alone -/
theorem QQ.tok (Q : QQ P σ τ f N e q d) (C : CT P σ' f N e') (M : MT P τ' f N e') (hc : ∀ o, o ≠ 1 → σ' o = σ o) (hcj : ∀ j, (j < 3 ∨ 6 < j) → σ' 1 j = σ 1 j) (hm : ∀ o, o ≠ 265 → τ' o = τ o) (hmj : ∀ j, (j < 4 ∨ 7 < j) → τ' 265 j = τ 265 j) : QQ P σ' τ' f N e' q d := by
  have hq := Q.pr.hp
  refine ⟨C, M, Q.pr.ag fun o _ _ => hc o (by omega), Q.tv, ?_, ?_, ?_, ?_, ?_, ?_, ?_, ?_, ?_, ?_, ?_, ?_, Q.nn3, Q.np⟩
  · rw [hcj 9 (by omega)]; exact Q.pl
  · rw [hcj 11 (by omega)]; exact Q.n11
  · rw [hcj 12 (by omega)]; exact Q.n12
  · rw [hcj 13 (by omega)]; exact Q.n13
  · rw [hcj 10 (by omega), hmj 13 (by omega)]; exact Q.al
  · rw [hmj 13 (by omega)]; exact Q.al2
  · rw [hmj 10 (by omega)]; exact Q.m10
  · rw [hmj 12 (by omega)]; exact Q.m12
  · rw [hm 267 (by omega)]; exact Q.dd
  · rw [hc 13 (by omega), hm 269 (by omega)]; exact Q.na0
  · rw [hc 14 (by omega), hm 269 (by omega)]; exact Q.na1
  · rw [hc 15 (by omega), hm 269 (by omega)]; exact Q.na2
theorem sim_adv (Q : QQ P σ τ f N e q d) : ∃ σ' τ', fX5_advance P σ 1 = some σ' ∧ fX8_goOn P τ 265 = some τ' ∧ QQ P σ' τ' f N (tE f N e) q d ∧ CFr q σ σ' ∧ MFr τ τ' := by
  obtain ⟨σ', r, C, o1, j1⟩ := c_adv Q.ct
  obtain ⟨τ', u, M, o2, j2⟩ := m_goOn Q.mt
  exact ⟨σ', τ', r, u, Q.tok C M o1 j1 o2 j2, CFr.ad o1 j1 Q.pr.hp (Q.ct.le C), MFr.ad o2 j2⟩
theorem sim_name (Q : QQ P σ τ f N e q d) (hk : kd = 0 ∨ kd = 1 ∨ kd = 2) (hc : d kd < cpN kd) :
    (∃ σ1 σ' τ' e', fX5_advance P σ 1 = some σ1 ∧ σ1 1 11 = 13 ∧ σ1 1 12 = 14 ∧ σ1 1 13 = 15 ∧ fX5_takeNewName P σ1 1 (13 + kd) (d kd) = some (1, σ') ∧ fX8_begin P τ 265 kd (cpN kd) = some (1, τ') ∧ QQ P σ' τ' f N e' q d ∧ NM (σ' (13 + kd)) (τ' 269) (96 * kd) (d kd + 1) ∧ CFr q σ σ' ∧ MFr τ τ') ∨
    (∃ σ1 σ' τ', fX5_advance P σ 1 = some σ1 ∧ σ1 1 11 = 13 ∧ σ1 1 12 = 14 ∧ σ1 1 13 = 15 ∧ fX5_takeNewName P σ1 1 (13 + kd) (d kd) = some (0, σ') ∧ fX8_begin P τ 265 kd (cpN kd) = some (0, τ') ∧ BAD q σ τ σ' τ') := by
  have hq := Q.pr.hp
  have sh := Q.ct.rb.sh
  obtain ⟨c0, c12, ct⟩ := Q.cn hk
  have hk2 : 0 ≤ kd ∧ kd ≤ 2 := by omega
  have cp12 : 0 ≤ cpN kd ∧ cpN kd ≤ 12 := by unfold cpN; repeat' split <;> omega
  obtain ⟨σ1, τ1, r1, u1, Q1, F1, G1⟩ := sim_adv Q
  have ht := tT_in (f := f) (N := N) (e := tE f N e)
  have hncap : ¬ (cpN kd ≤ d kd) := by omega
  have hna := Q1.na hk
  unfold naF at hna
  obtain ⟨_, _, ct1⟩ := Q1.cn hk
  generalize tE f N e = e1 at *
  by_cases hw : tT f N e1 = 1
  · have hi := fdI_in (h := σ1 (13 + kd)) (v := tV f N e1) c0
    have hr : iR (fdI (σ1 (13 + kd)) (tV f N e1) (d kd)) = true := iR_t (by omega) (by omega)
    have MF : fX8_draftFind P τ1 265 kd = some (fdI (σ1 (13 + kd)) (tV f N e1) (d kd)) := m_find Q1.mt hw hk Q1.m12 Q1.m10 ct1 c0 (by omega) hna
    by_cases hx : fdI (σ1 (13 + kd)) (tV f N e1) (d kd) = -1
    · left
      obtain ⟨σ', v1, C', o', j', a1, a2⟩ := c_new1 Q1.ct hw hk rfl c0 hc hna hx
      obtain ⟨s, w1, o9, p9⟩ := m_put Q1.mt hw hk Q1.m12 Q1.m10 ct1 c0 hc (fun s31 => onO P 8 265 <| cl (fX8_goOn P s31 265) fun s32 => bz 1 (some ((1 : Int), s32)))
      have Ms : MT P s f N e1 := Q1.mt.fr (fun j _ _ => by rw [o9 265 (by omega)]) (o9 266 (by omega))
      obtain ⟨τ', u2, M', o2, j2⟩ := m_goOn Ms
      have tw := tw_in Q1.mt.e0 Q1.mt.e1 hw
      have hB : ∀ j, τ' 269 j = if 96 * kd + 8 * d kd ≤ j ∧ j < 96 * kd + 8 * d kd + 8 then (if j - (96 * kd + 8 * d kd) < tE f N e1 - tS f N e1 then f (tS f N e1 + (j - (96 * kd + 8 * d kd))) else 0) else τ1 269 j := fun j => by rw [o2 269 (by omega)]; exact p9 j
      have nw := nm_new (g := σ' (13 + kd)) hk c0 hc hna hB ⟨tw.1, tw.2.1⟩ tw.2.2.1 a1 (a2.trans tw.2.2.2)
      have na9 : ∀ a, (a = 0 ∨ a = 1 ∨ a = 2) → naF σ' τ' d a := by
        intro a ha
        by_cases z : a = kd
        · subst z; exact nw.le (by omega)
        · have := Q1.na ha
          unfold naF at this ⊢
          rw [o' (13 + a) (by omega) (by omega)]
          exact nm_old hk c0 hc hB ha z this (Q1.cn ha).2.1
      have F' : CFr q σ1 σ' := ⟨fun o h1 h2 h3 => o' o h1 (by omega), fun j h1 h2 => j' j (by omega), fun j _ => by rw [o' q (by omega) (by omega)], Q1.ct.le C'⟩
      have G' : MFr τ1 τ' := ⟨fun o h1 h2 h3 => by rw [o2 o h1, o9 o h3], fun j h1 h2 => by rw [j2 j (by omega), o9 265 (by omega)]⟩
      refine ⟨σ1, σ', τ', tE f N e1, r1, Q1.n11, Q1.n12, Q1.n13, v1, ?_, ⟨C', M', Q1.pr.ag fun o _ _ => o' o (by omega) (by omega), Q.tv, ?_, ?_, ?_, ?_, ?_, ?_, ?_, ?_, ?_, na9 0 (by omega), na9 1 (by omega), na9 2 (by omega), Q.nn3, Q.np⟩, nw, F1.tr F', G1.tr G'⟩
      · have hL9 : iR (tE f N e1 - tS f N e1) = true := iR_t (by omega) (by omega)
        have w2 := w1.trans (show (onO P 8 265 <| cl (fX8_goOn P s 265) fun s32 => bz 1 (some ((1 : Int), s32))) = some (1, τ') by rw [z_on, if_pos (sO265 sh), e_cl u2]; rfl)
        have t1 := Q1.mt.tt
        have s1 := Q1.mt.ss
        have ee1 := Q1.mt.ee
        rw [← w2]
        simp (disch := first | omega | assumption) only [fX8_begin, ↓z_lt, ↓z_ge, ↓z_gt, ↓z_le, ↓z_eq, ↓z_ne, ↓z_mx, ↓z_mn, ↓z_dv, ↓z_rm, ↓z_i2l, ↓z_lc, ↓z_sw, ↓z_sf, ↓z_sn, ↓z_bd, ↓z_nt, z_b0, z_b1, z_bi, z_bj, ↓z_gF, ↓z_gR, ↓z_pF, ↓z_pZ, ↓z_pR, ↓z_aI, ↓z_aR, ↓z_sI, ↓z_sZ, ↓z_on, z_cl, ↓reduceIte, Int.reduceEq, Int.reduceNeg, Int.reduceLT, Int.reduceLE, Int.reduceAdd, Int.reduceSub, Int.reduceMul, true_and, and_true, or_true, true_or, eq_self, iR_t, sO265 sh, sA267 sh, Q.m10, ct, hncap, ↓m_must1' Q.mt, ↓e_cl u1, t1, hw, ↓m_must1' Q1.mt, ↓e_cl MF, hx, s1, ee1]
      · rw [j' 9 (by omega)]; exact Q1.pl
      · rw [j' 11 (by omega)]; exact Q1.n11
      · rw [j' 12 (by omega)]; exact Q1.n12
      · rw [j' 13 (by omega)]; exact Q1.n13
      · rw [j' 10 (by omega), j2 13 (by omega), o9 265 (by omega)]; exact Q1.al
      · rw [j2 13 (by omega), o9 265 (by omega)]; exact Q1.al2
      · rw [j2 10 (by omega), o9 265 (by omega)]; exact Q1.m10
      · rw [j2 12 (by omega), o9 265 (by omega)]; exact Q1.m12
      · rw [o2 267 (by omega), o9 267 (by omega)]; exact Q1.dd
    · right
      refine ⟨σ1, clt σ1 3, mlt τ1 3, r1, Q1.n11, Q1.n12, Q1.n13, c_new3 Q1.ct hw hk rfl c0 (by omega) hna hx, ?_, BAD.flt hq Q1.ct Q1.mt F1 G1 (by omega)⟩
      have t1 := Q1.mt.tt
      simp (disch := first | omega | assumption) only [fX8_begin, ↓z_lt, ↓z_ge, ↓z_gt, ↓z_le, ↓z_eq, ↓z_ne, ↓z_mx, ↓z_mn, ↓z_dv, ↓z_rm, ↓z_i2l, ↓z_lc, ↓z_sw, ↓z_sf, ↓z_sn, ↓z_bd, ↓z_nt, z_b0, z_b1, z_bi, z_bj, ↓z_gF, ↓z_gR, ↓z_pF, ↓z_pZ, ↓z_pR, ↓z_aI, ↓z_aR, ↓z_sI, ↓z_sZ, ↓z_on, z_cl, ↓reduceIte, Int.reduceEq, Int.reduceNeg, Int.reduceLT, Int.reduceLE, Int.reduceAdd, Int.reduceSub, Int.reduceMul, true_and, and_true, or_true, true_or, eq_self, iR_t, sO265 sh, sA267 sh, Q.m10, ct, hncap, ↓m_must1' Q.mt, ↓e_cl u1, t1, hw, ↓m_must1' Q1.mt, ↓e_cl MF, hx, hr, ↓m_must0' Q1.mt]
  · right
    refine ⟨σ1, clt σ1 1, mlt τ1 1, r1, Q1.n11, Q1.n12, Q1.n13, c_new0 Q1.ct hw, ?_, BAD.flt hq Q1.ct Q1.mt F1 G1 (by omega)⟩
    have t1 := Q1.mt.tt
    simp (disch := first | omega | assumption) only [fX8_begin, ↓z_lt, ↓z_ge, ↓z_gt, ↓z_le, ↓z_eq, ↓z_ne, ↓z_mx, ↓z_mn, ↓z_dv, ↓z_rm, ↓z_i2l, ↓z_lc, ↓z_sw, ↓z_sf, ↓z_sn, ↓z_bd, ↓z_nt, z_b0, z_b1, z_bi, z_bj, ↓z_gF, ↓z_gR, ↓z_pF, ↓z_pZ, ↓z_pR, ↓z_aI, ↓z_aR, ↓z_sI, ↓z_sZ, ↓z_on, z_cl, ↓reduceIte, Int.reduceEq, Int.reduceNeg, Int.reduceLT, Int.reduceLE, Int.reduceAdd, Int.reduceSub, Int.reduceMul, true_and, and_true, or_true, true_or, eq_self, iR_t, sO265 sh, sA267 sh, Q.m10, ct, hncap, ↓m_must1' Q.mt, ↓e_cl u1, t1, hw, ↓m_must0' Q1.mt]
end ZZN
