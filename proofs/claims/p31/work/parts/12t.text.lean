/-! String.length and String.charAt of a literal (laid by wip/whole/gen/text.py) -/
section VX
variable {X : Cxt} {w : Wd} {cc : ByteArray} {nL : Nat} {own : String} {ret : Option FieldType} {P : Shp} {n cells slots : Nat} {α : Type} {res : α} {K : Option α} {σ : St} {pc : Nat} {lv : List (Nat × Value)} {st : List Value}
theorem v_aloadR_n (C : Cok X w cc nL own ret) {i j r : Nat} {f : Fin 4} (d : decode cc pc = .ok (.aload_n f, 1)) (hi : (f : Nat) = i) (h : lv[j]? = some (i, .ref r)) (k : V X w nL P n cells slots res K σ (pc + 1) lv (.ref r :: st)) : V X w nL P n cells slots res K σ pc lv st :=
  fun H locs ls hR hS hl hK => lv_aload_n C.1.1 C.1.2.1 d hi (lv_at hl j h) (k H locs ls hR hS hl hK)
theorem v_ssf (C : Cok X w cc nL own ret) {idx : Nat} (hw : Cond.fieldLink own idx "jdk/internal/util/Preconditions" "SIOOBE_FORMATTER" "Ljava/util/function/BiFunction;" ∈ TB) (d : decode cc pc = .ok (.getstatic idx, 3)) (k0 : V X w nL P n cells slots res K σ (pc + 3) lv (.null :: st)) (k : ∀ r : Nat, V X w nL P n cells slots res K σ (pc + 3) lv (.ref r :: st)) : V X w nL P n cells slots res K σ pc lv st :=
  fun H locs ls hR hS hl hK => by
    have hq : va_Zq "jdk/internal/util/Preconditions" "SIOOBE_FORMATTER" "Ljava/util/function/BiFunction;" (wA w) X.2.2.2.2.1 X.2.2.2.2.1.heap := C.2.1.q12.kept (fun a h _ => C.2.2.2.2.1 a h)
    rcases hq with hq | ⟨t, hq⟩
    · exact va_gets C.1.1 C.1.2.1 hq hS C.1.2.2.2.1 (C.wd hw) (fun _ h => h) d (k0 H locs ls hR hS hl hK)
    · exact va_gets C.1.1 C.1.2.1 hq hS C.1.2.2.2.1 (C.wd hw) (fun _ h => h) d (k t H locs ls hR hS hl hK)
theorem v_sbyt (C : Cok X w cc nL own ret) {z i : Int} (hz : isLit z) (h0 : 0 ≤ i) (h1 : i < ((lenS.getD (-2 - z).toNat 0 : Nat) : Int)) (h2 : i < 1000) (d : decode cc pc = .ok (.baload, 1)) (k : V X w nL P n cells slots res K σ (pc + 1) lv (I ((bytS.getD (-2 - z).toNat []).getD i.toNat 0).toInt :: st)) : V X w nL P n cells slots res K σ pc lv (I i :: .ref (w.2.2.1 (-2 - z).toNat) :: st) :=
  fun H locs ls hR hS hl hK => va_tb C.1.1 C.1.2.1 ((lit_S C).1 _ (lit_lt hz)).2.2.2 hS (i := Int32.ofInt i) (by rw [vp_in_iff, i32_toInt ⟨by omega, by omega⟩]; exact ⟨h0, h1⟩) (v := I ((bytS.getD (-2 - z).toNat []).getD i.toNat 0).toInt) (by unfold I; rw [Int32.ofInt_toInt, cl32 h0 (by omega)]) d (k H locs ls hR hS hl hK)
theorem v_tret (C : Cok X w cc nL own ret) {x r : Int} {σr : St} {ty : FieldType} (hr : ret = some ty) (hn : narrow ty (.int (Int32.ofInt x)) = .int (Int32.ofInt x)) (hO : Own X w cells slots (QI w P n r σr)) {res : α} {K : Option α} (hx : K = some res → x = r ∧ σ = σr) (d : decode cc pc = .ok (.ireturn, 1)) : V X w nL P n cells slots res K σ pc lv [I x] := fun H locs ls hR hS hl hK => by
  obtain ⟨rfl, rfl⟩ := hx hK
  show W _ _ _ _ _ _ _ _ _ _ _ _ _ _ X.2.2.2.2.2.2.2.2.2.2 _
  rw [hO]
  exact W.zret C.1.1 C.1.2.1 (C.2.2.1.trans hr) hn (fun t ht hW => ⟨⟨_, (), rfl, rfl, Rp.end C hR ht hW⟩, hS.F ht⟩) hS.2.2 d C.2.2.2.1
theorem h_coder : yJ0_coder_7d493.cls ≠ "java/lang/invoke/MethodHandle" ∧ yJ0_coder_7d493.cls ≠ "java/lang/invoke/VarHandle" ∧ (parseMethodDescriptor yJ0_coder_7d493.desc).map (fun d => d.parameters.length) = some 0 := by decide +kernel
theorem h_length : yJ0_length_8abf5.cls ≠ "java/lang/invoke/MethodHandle" ∧ yJ0_length_8abf5.cls ≠ "java/lang/invoke/VarHandle" ∧ (parseMethodDescriptor yJ0_length_8abf5.desc).map (fun d => d.parameters.length) = some 0 := by decide +kernel
theorem h_isLatin1 : yJ0_isLatin1_aae02.cls ≠ "java/lang/invoke/MethodHandle" ∧ yJ0_isLatin1_aae02.cls ≠ "java/lang/invoke/VarHandle" ∧ (parseMethodDescriptor yJ0_isLatin1_aae02.desc).map (fun d => d.parameters.length) = some 0 := by decide +kernel
theorem h_charAt : yJ0_charAt_5068e.cls ≠ "java/lang/invoke/MethodHandle" ∧ yJ0_charAt_5068e.cls ≠ "java/lang/invoke/VarHandle" ∧ (parseMethodDescriptor yJ0_charAt_5068e.desc).map (fun d => d.parameters.length) = some 1 := by decide +kernel
theorem h_checkIndex : yJ0_checkIndex_df160.cls ≠ "java/lang/invoke/MethodHandle" ∧ yJ0_checkIndex_df160.cls ≠ "java/lang/invoke/VarHandle" ∧ (parseMethodDescriptor yJ0_checkIndex_df160.desc).map (fun d => d.parameters.length) = some 2 := by decide +kernel
theorem h_l1charAt : yJ1_charAt_3b067.cls ≠ "java/lang/invoke/MethodHandle" ∧ yJ1_charAt_3b067.cls ≠ "java/lang/invoke/VarHandle" ∧ (parseMethodDescriptor yJ1_charAt_3b067.desc).map (fun d => d.parameters.length) = some 2 := by decide +kernel
theorem h_pcheck : yJ3_checkIndex_8e157.cls ≠ "java/lang/invoke/MethodHandle" ∧ yJ3_checkIndex_8e157.cls ≠ "java/lang/invoke/VarHandle" ∧ (parseMethodDescriptor yJ3_checkIndex_8e157.desc).map (fun d => d.parameters.length) = some 3 := by decide +kernel
abbrev r_pcheck : Room := { frames := 0, cells := 0, slots := 0, locals := 0 }
abbrev r_coder : Room := { frames := 0, cells := 0, slots := 0, locals := 0 }
abbrev r_isLatin1 : Room := { frames := 0, cells := 0, slots := 0, locals := 0 }
abbrev r_length : Room := { frames := 1, cells := 0, slots := 0, locals := 20 }
abbrev r_checkIndex : Room := { frames := 1, cells := 0, slots := 0, locals := 22 }
abbrev r_l1charAt : Room := { frames := 2, cells := 0, slots := 0, locals := 43 }
abbrev r_charAt : Room := { frames := 3, cells := 0, slots := 0, locals := 64 }
theorem k_coder (l : Launch) (w : Wd) (P : Shp) (n : Nat) {s : St} {z : Int} (hz : isLit z) : Ct l w yJ0_coder_7d493 cJ0_coder_7d493 1 (some .byte) r_coder P n [A w z] s (QI w P n 0 s) :=
  Ct.of (α := Int) (F := jeq 1 0 none (some (0 : Int))) (res := 0) rfl (by decide) (Nat.le_of_ble_eq_true rfl) (lv := [(0, A w z)]) rfl fun X hl hRm C hO => by
  subst hl
  refine v_scs C tw_590 dJ0_coder_7d493_0 ?_
  refine v_if_eq (tgt := 13) C dJ0_coder_7d493_3 rfl v_none ?_
  refine v_aload_n C dJ0_coder_7d493_6 rfl (j := 0) rfl ?_
  refine v_scod C hz tw_1181 dJ0_coder_7d493_7 ?_
  refine v_goto (tgt := 14) C dJ0_coder_7d493_10 rfl ?_
  exact v_tret C rfl (by decide) hO pS dJ0_coder_7d493_14
theorem k_isLatin1 (l : Launch) (w : Wd) (P : Shp) (n : Nat) {s : St} {z : Int} (hz : isLit z) : Ct l w yJ0_isLatin1_aae02 cJ0_isLatin1_aae02 1 (some .boolean) r_isLatin1 P n [A w z] s (QI w P n 1 s) :=
  Ct.of (α := Int) (F := jeq 1 0 none (jne 0 0 none (bz 1 (some (1 : Int))))) (res := 1) rfl (by decide) (Nat.le_of_ble_eq_true rfl) (lv := [(0, A w z)]) rfl fun X hl hRm C hO => by
  subst hl
  refine v_scs C tw_590 dJ0_isLatin1_aae02_0 ?_
  refine v_if_eq (tgt := 17) C dJ0_isLatin1_aae02_3 rfl v_none ?_
  refine v_aload_n C dJ0_isLatin1_aae02_6 rfl (j := 0) rfl ?_
  refine v_scod C hz tw_1181 dJ0_isLatin1_aae02_7 ?_
  refine v_if_ne (tgt := 17) C dJ0_isLatin1_aae02_10 rfl v_none ?_
  refine v_iconst C dJ0_isLatin1_aae02_13 ?_
  refine v_goto (tgt := 18) C dJ0_isLatin1_aae02_14 rfl ?_
  exact v_zret C rfl hO pS dJ0_isLatin1_aae02_18
theorem v_runSt (C : Cok X w cc nL own ret) {y : MethodName} {b : ByteArray} {ml k idx : Nat} {rt : Option FieldType} {rm : Room} {Q : Qt} {z : Int} {As sk : List Value} {H : Heap} {locs : List Loc} {ls : Array Slot} (hz : isLit z) (E : Cee X y b ml rt rm k) (hM : Ct X.2.1 w y b ml rt rm P n (A w z :: As) σ Q) (hl : Cond.methodLink own idx y ∈ TB) (hi : Cond.instanceMethod y ∈ TB) (hs : Cond.selects "java/lang/String" y y ∈ TB) (hCn : y.cls = "java/lang/String")
    (hR : Rep w P n σ H) (hS : va_S (wA w) X.2.2.2.2.1.heap H locs) (hn : As.length = k) (hsk : sk = As.reverse ++ A w z :: st) (hsum : (st.map fun v => v.category).sum ≤ 8) (hcs : cells ≤ X.2.2.2.1.cells ∧ slots ≤ X.2.2.2.1.slots) (hls : ls.size = nL) (d : decode cc pc = .ok (.invokevirtual idx, 3)) : Rn X w n cells slots P H locs (F0 X.2.2.2.2.2.1 pc ls sk) st Q (A w z :: As).toArray := by
  obtain ⟨e1, e2, e3, e4, e5, e6, e7⟩ := E
  subst hsk
  refine va_runV C.1 hM (cwV k C.1.2.2.2.2 (TB_wsV hl hi hs (by rw [← hCn]; exact e2) e1) rfl e4 e5 ⟨hCn, e3⟩ ⟨e6, e7⟩) ⟨fun a U g mk q => ⟨q.1, q.2.1, q.2.2.same rfl⟩, ?_, fun U hU hW => ⟨rfl, by rw [hU]; exact hR, C.2.1.warm hW⟩⟩ rfl hn hls rfl (lv_room hsum) d hcs
  rw [ad_lit hz]
  exact vk_recv (lit_S C) (lit_lt hz) hS
theorem v_callSt (C : Cok X w cc nL own ret) {y : MethodName} {b : ByteArray} {ml k idx : Nat} {rt : Option FieldType} {rm : Room} {z r : Int} (As : List Value) {sk : List Value} (st : List Value) {K : Option α} (hz : isLit z) (E : Cee X y b ml rt rm k) (hM : Ct X.2.1 w y b ml rt rm P n (A w z :: As) σ (QI w P n r σ)) (hl : Cond.methodLink own idx y ∈ TB) (hi : Cond.instanceMethod y ∈ TB) (hs : Cond.selects "java/lang/String" y y ∈ TB) (hCn : y.cls = "java/lang/String") (hn : As.length = k) (hsk : sk = As.reverse ++ A w z :: st) (hsum : (st.map fun v => v.category).sum ≤ 8) (hcs : cells ≤ X.2.2.2.1.cells ∧ slots ≤ X.2.2.2.1.slots) (d : decode cc pc = .ok (.invokevirtual idx, 3))
    (kk : V X w nL P n cells slots res K σ (pc + 3) lv (I r :: st)) : V X w nL P n cells slots res K σ pc lv sk := fun H locs ls hR hS hl9 hK =>
  v_afterI (v_runSt C hz E hM hl hi hs hCn hR hS hn hsk hsum hcs hl9.1 d) hS hR hl9 hK kk
theorem v_callLI (C : Cok X w cc nL own ret) {y : MethodName} {b : ByteArray} {ml k idx : Nat} {rt : Option FieldType} {rm : Room} {r : Int} (As : List Value) {sk : List Value} (st : List Value) {K : Option α} (E : Cee X y b ml rt rm k) (hM : Ct X.2.1 w y b ml rt rm P n As σ (QI w P n r σ)) (hl : Cond.methodLink own idx y ∈ TB) (hi : Cond.static y ∈ TB) (hn : As.length = k) (hsk : sk = As.reverse ++ st) (hsum : (st.map fun v => v.category).sum ≤ 8) (hcs : cells ≤ X.2.2.2.1.cells ∧ slots ≤ X.2.2.2.1.slots) (d : decode cc pc = .ok (.invokestatic idx, 3))
    (kk : V X w nL P n cells slots res K σ (pc + 3) lv (I r :: st)) : V X w nL P n cells slots res K σ pc lv sk := fun H locs ls hR hS hl9 hK =>
  v_afterI (v_runS C E hM hl hi hR hn hsk hsum hcs hl9.1 d) hS hR hl9 hK kk
theorem v_callLV (C : Cok X w cc nL own ret) {y : MethodName} {b : ByteArray} {ml k idx : Nat} {rt : Option FieldType} {rm : Room} (As : List Value) {sk : List Value} (st : List Value) {K : Option α} (E : Cee X y b ml rt rm k) (hM : Ct X.2.1 w y b ml rt rm P n As σ (QV w P n σ)) (hl : Cond.methodLink own idx y ∈ TB) (hi : Cond.static y ∈ TB) (hn : As.length = k) (hsk : sk = As.reverse ++ st) (hsum : (st.map fun v => v.category).sum ≤ 8) (hcs : cells ≤ X.2.2.2.1.cells ∧ slots ≤ X.2.2.2.1.slots) (d : decode cc pc = .ok (.invokestatic idx, 3))
    (kk : V X w nL P n cells slots res K σ (pc + 3) lv st) : V X w nL P n cells slots res K σ pc lv sk := fun H locs ls hR hS hl9 hK =>
  v_afterV (v_runS C E hM hl hi hR hn hsk hsum hcs hl9.1 d) hS hR hl9 hK kk
theorem lit_shr {z : Int} (hz : isLit z) : ishr ((lenS.getD (-2 - z).toNat 0 : Nat) : Int) 0 = ((lenS.getD (-2 - z).toNat 0 : Nat) : Int) := by
  have h : ∀ i, i < 25 → ishr ((lenS.getD i 0 : Nat) : Int) 0 = ((lenS.getD i 0 : Nat) : Int) := by decide +kernel
  exact h _ (lit_lt hz)
theorem k_length (l : Launch) (w : Wd) (P : Shp) (n : Nat) {s : St} {z : Int} (hz : isLit z) : Ct l w yJ0_length_8abf5 cJ0_length_8abf5 1 (some .int) r_length P n [A w z] s (QI w P n ((lenS.getD (-2 - z).toNat 0 : Nat) : Int) s) :=
  Ct.of (α := Int) (F := some (((lenS.getD (-2 - z).toNat 0 : Nat) : Int))) (res := ((lenS.getD (-2 - z).toNat 0 : Nat) : Int)) rfl (by decide) (Nat.le_of_ble_eq_true rfl) (lv := [(0, A w z)]) rfl fun X hl hRm C hO => by
  subst hl
  refine v_aload_n C dJ0_length_8abf5_0 rfl (j := 0) rfl ?_
  refine v_sval C hz tw_1180 dJ0_length_8abf5_1 ?_
  refine v_slen C hz dJ0_length_8abf5_4 ?_
  refine v_aload_n C dJ0_length_8abf5_5 rfl (j := 0) rfl ?_
  refine v_callSt C [] [I _] hz (Cee.of (rm := r_coder) tw_589 tw_17 h_coder rfl rfl hRm (Nat.le_of_ble_eq_true rfl) (Nat.le_of_ble_eq_true rfl)) (k_coder X.2.1 w P n hz) tw_586 tw_587 tw_588 rfl rfl rfl (Nat.le_of_ble_eq_true rfl) ⟨Nat.zero_le _, Nat.zero_le _⟩ dJ0_length_8abf5_6 ?_
  refine v_ishr C dJ0_length_8abf5_9 ?_
  rw [lit_shr hz]
  exact v_iret C rfl hO pS dJ0_length_8abf5_10
theorem k_pcheck_r (l : Launch) (w : Wd) (P : Shp) (n : Nat) {s : St} {i m : Int} {r : Nat} (h0 : 0 ≤ i) (h1 : i < m) (h2 : m < 1000) : Ct l w yJ3_checkIndex_8e157 cJ3_checkIndex_8e157 3 (some .int) r_pcheck P n [I i, I m, .ref r] s (QI w P n i s) :=
  Ct.of (α := Int) (F := jlt i 0 none (jlt i m (some i) none)) (res := i) (by unfold jlt; rw [if_pos ⟨⟨by omega, by omega⟩, by decide⟩, if_neg (by omega), if_pos ⟨⟨by omega, by omega⟩, ⟨by omega, by omega⟩⟩, if_pos h1]) (by decide) (Nat.le_of_ble_eq_true rfl) (lv := [(0, I i), (1, I m), (2, .ref r)]) rfl fun X hl hRm C hO => by
  subst hl
  refine v_iload_n C dJ3_checkIndex_8e157_0 rfl (j := 0) rfl ?_
  refine v_if_lt (tgt := 9) C dJ3_checkIndex_8e157_1 rfl v_none ?_
  refine v_iload_n C dJ3_checkIndex_8e157_4 rfl (j := 0) rfl ?_
  refine v_iload_n C dJ3_checkIndex_8e157_5 rfl (j := 1) rfl ?_
  refine v_icmp_lt (tgt := 16) C dJ3_checkIndex_8e157_6 rfl ?_ v_none
  refine v_iload_n C dJ3_checkIndex_8e157_16 rfl (j := 0) rfl ?_
  exact v_iret C rfl hO pS dJ3_checkIndex_8e157_17
theorem k_pcheck_n (l : Launch) (w : Wd) (P : Shp) (n : Nat) {s : St} {i m : Int}  (h0 : 0 ≤ i) (h1 : i < m) (h2 : m < 1000) : Ct l w yJ3_checkIndex_8e157 cJ3_checkIndex_8e157 3 (some .int) r_pcheck P n [I i, I m, .null] s (QI w P n i s) :=
  Ct.of (α := Int) (F := jlt i 0 none (jlt i m (some i) none)) (res := i) (by unfold jlt; rw [if_pos ⟨⟨by omega, by omega⟩, by decide⟩, if_neg (by omega), if_pos ⟨⟨by omega, by omega⟩, ⟨by omega, by omega⟩⟩, if_pos h1]) (by decide) (Nat.le_of_ble_eq_true rfl) (lv := [(0, I i), (1, I m), (2, .null)]) rfl fun X hl hRm C hO => by
  subst hl
  refine v_iload_n C dJ3_checkIndex_8e157_0 rfl (j := 0) rfl ?_
  refine v_if_lt (tgt := 9) C dJ3_checkIndex_8e157_1 rfl v_none ?_
  refine v_iload_n C dJ3_checkIndex_8e157_4 rfl (j := 0) rfl ?_
  refine v_iload_n C dJ3_checkIndex_8e157_5 rfl (j := 1) rfl ?_
  refine v_icmp_lt (tgt := 16) C dJ3_checkIndex_8e157_6 rfl ?_ v_none
  refine v_iload_n C dJ3_checkIndex_8e157_16 rfl (j := 0) rfl ?_
  exact v_iret C rfl hO pS dJ3_checkIndex_8e157_17
theorem k_checkIndex (l : Launch) (w : Wd) (P : Shp) (n : Nat) {s : St} {i m : Int} (h0 : 0 ≤ i) (h1 : i < m) (h2 : m < 1000) : Ct l w yJ0_checkIndex_df160 cJ0_checkIndex_df160 2 none r_checkIndex P n [I i, I m] s (QV w P n s) :=
  Ct.of (α := Unit) (F := some ()) (res := ()) rfl (by decide) (Nat.le_of_ble_eq_true rfl) (lv := [(0, I i), (1, I m)]) rfl fun X hl hRm C hO => by
  subst hl
  refine v_iload_n C dJ0_checkIndex_df160_0 rfl (j := 0) rfl ?_
  refine v_iload_n C dJ0_checkIndex_df160_1 rfl (j := 1) rfl ?_
  refine v_ssf C tw_667 dJ0_checkIndex_df160_2 ?_ (fun r => ?_)
  · refine v_callLI C [I i, I m, .null] [] (Cee.of (rm := r_pcheck) tw_774 tw_21 h_pcheck rfl rfl hRm (Nat.le_of_ble_eq_true rfl) (Nat.le_of_ble_eq_true rfl)) (k_pcheck_n X.2.1 w P n h0 h1 h2) tw_772 tw_773 rfl rfl (Nat.le_of_ble_eq_true rfl) ⟨Nat.zero_le _, Nat.zero_le _⟩ dJ0_checkIndex_df160_5 ?_
    refine v_pop C dJ0_checkIndex_df160_8 rfl ?_
    exact v_vret C rfl hO (fun _ => rfl) dJ0_checkIndex_df160_9
  · refine v_callLI C [I i, I m, .ref r] [] (Cee.of (rm := r_pcheck) tw_774 tw_21 h_pcheck rfl rfl hRm (Nat.le_of_ble_eq_true rfl) (Nat.le_of_ble_eq_true rfl)) (k_pcheck_r X.2.1 w P n h0 h1 h2) tw_772 tw_773 rfl rfl (Nat.le_of_ble_eq_true rfl) ⟨Nat.zero_le _, Nat.zero_le _⟩ dJ0_checkIndex_df160_5 ?_
    refine v_pop C dJ0_checkIndex_df160_8 rfl ?_
    exact v_vret C rfl hO (fun _ => rfl) dJ0_checkIndex_df160_9
theorem lit_ch {z i : Int} (hz : isLit z) (h0 : 0 ≤ i) (h1 : i < ((lenS.getD (-2 - z).toNat 0 : Nat) : Int)) : i2c (iand ((bytS.getD (-2 - z).toNat []).getD i.toNat 0).toInt 255) = ((bytS.getD (-2 - z).toNat []).getD i.toNat 0).toInt ∧ narrow .char (.int (Int32.ofInt ((bytS.getD (-2 - z).toNat []).getD i.toNat 0).toInt)) = .int (Int32.ofInt ((bytS.getD (-2 - z).toNat []).getD i.toNat 0).toInt) := by
  have h : ∀ j, j < 25 → ∀ k, k < lenS.getD j 0 → i2c (iand ((bytS.getD j []).getD k 0).toInt 255) = ((bytS.getD j []).getD k 0).toInt ∧ narrow .char (.int (Int32.ofInt ((bytS.getD j []).getD k 0).toInt)) = .int (Int32.ofInt ((bytS.getD j []).getD k 0).toInt) := by decide +kernel
  exact h _ (lit_lt hz) _ (by omega)
theorem k_l1charAt (l : Launch) (w : Wd) (P : Shp) (n : Nat) {s : St} {z i : Int} (hz : isLit z) (h0 : 0 ≤ i) (h1 : i < ((lenS.getD (-2 - z).toNat 0 : Nat) : Int)) : Ct l w yJ1_charAt_3b067 cJ1_charAt_3b067 2 (some .char) r_l1charAt P n [.ref (w.2.2.1 (-2 - z).toNat), I i] s (QI w P n ((bytS.getD (-2 - z).toNat []).getD i.toNat 0).toInt s) :=
  Ct.of (α := Int) (F := some (((bytS.getD (-2 - z).toNat []).getD i.toNat 0).toInt)) (res := ((bytS.getD (-2 - z).toNat []).getD i.toNat 0).toInt) rfl (by decide) (Nat.le_of_ble_eq_true rfl) (lv := [(0, .ref (w.2.2.1 (-2 - z).toNat)), (1, I i)]) rfl fun X hl hRm C hO => by
  subst hl
  refine v_iload_n C dJ1_charAt_3b067_0 rfl (j := 1) rfl ?_
  refine v_aloadR_n C dJ1_charAt_3b067_1 rfl (j := 0) rfl ?_
  refine v_slen C hz dJ1_charAt_3b067_2 ?_
  refine v_callLV C [I i, I _] [] (Cee.of (rm := r_checkIndex) tw_771 tw_17 h_checkIndex rfl rfl hRm (Nat.le_of_ble_eq_true rfl) (Nat.le_of_ble_eq_true rfl)) (k_checkIndex X.2.1 w P n h0 h1 (lit_len hz)) tw_861 tw_770 rfl rfl (Nat.le_of_ble_eq_true rfl) ⟨Nat.zero_le _, Nat.zero_le _⟩ dJ1_charAt_3b067_3 ?_
  refine v_aloadR_n C dJ1_charAt_3b067_6 rfl (j := 0) rfl ?_
  refine v_iload_n C dJ1_charAt_3b067_7 rfl (j := 1) rfl ?_
  refine v_sbyt C hz h0 h1 (Int.lt_trans h1 (lit_len hz)) dJ1_charAt_3b067_8 ?_
  refine v_sipush C dJ1_charAt_3b067_9 (by decide) ?_
  refine v_iand C dJ1_charAt_3b067_12 ?_
  refine v_i2c C dJ1_charAt_3b067_13 ?_
  rw [(lit_ch hz h0 h1).1]
  exact v_tret C rfl (lit_ch hz h0 h1).2 hO pS dJ1_charAt_3b067_14
theorem k_charAt (l : Launch) (w : Wd) (P : Shp) (n : Nat) {s : St} {z i : Int} (hz : isLit z) (h0 : 0 ≤ i) (h1 : i < ((lenS.getD (-2 - z).toNat 0 : Nat) : Int)) : Ct l w yJ0_charAt_5068e cJ0_charAt_5068e 2 (some .char) r_charAt P n [A w z, I i] s (QI w P n ((bytS.getD (-2 - z).toNat []).getD i.toNat 0).toInt s) :=
  Ct.of (α := Int) (F := jeq 1 0 none (some (((bytS.getD (-2 - z).toNat []).getD i.toNat 0).toInt))) (res := ((bytS.getD (-2 - z).toNat []).getD i.toNat 0).toInt) rfl (by decide) (Nat.le_of_ble_eq_true rfl) (lv := [(0, A w z), (1, I i)]) rfl fun X hl hRm C hO => by
  subst hl
  refine v_aload_n C dJ0_charAt_5068e_0 rfl (j := 0) rfl ?_
  refine v_callSt C [] [] hz (Cee.of (rm := r_isLatin1) tw_857 tw_17 h_isLatin1 rfl rfl hRm (Nat.le_of_ble_eq_true rfl) (Nat.le_of_ble_eq_true rfl)) (k_isLatin1 X.2.1 w P n hz) tw_854 tw_855 tw_856 rfl rfl rfl (Nat.le_of_ble_eq_true rfl) ⟨Nat.zero_le _, Nat.zero_le _⟩ dJ0_charAt_5068e_1 ?_
  refine v_if_eq (tgt := 16) C dJ0_charAt_5068e_4 rfl v_none ?_
  refine v_aload_n C dJ0_charAt_5068e_7 rfl (j := 0) rfl ?_
  refine v_sval C hz tw_1180 dJ0_charAt_5068e_8 ?_
  refine v_iload_n C dJ0_charAt_5068e_11 rfl (j := 1) rfl ?_
  refine v_callLI C [.ref _, I i] [] (Cee.of (rm := r_l1charAt) tw_860 tw_22 h_l1charAt rfl rfl hRm (Nat.le_of_ble_eq_true rfl) (Nat.le_of_ble_eq_true rfl)) (k_l1charAt X.2.1 w P n hz h0 h1) tw_858 tw_859 rfl rfl (Nat.le_of_ble_eq_true rfl) ⟨Nat.zero_le _, Nat.zero_le _⟩ dJ0_charAt_5068e_12 ?_
  exact v_tret C rfl (lit_ch hz h0 h1).2 hO pS dJ0_charAt_5068e_15
theorem v_sln {idx : Nat} {z : Int} {K : Int → Option α} {R : Room} {sk : List Value} (C : Cok X w cc nL own ret) (st : List Value) (h1 : Cond.methodLink own idx yJ0_length_8abf5 ∈ TB) (h2 : Cond.selects RJ0 yJ0_length_8abf5 yJ0_length_8abf5 ∈ TB) (hR : X.2.2.2.1 = R) (hf : 7 ≤ R.frames) (hlo : 180 ≤ R.locals) (hsk : sk = A w z :: st) (hsum : (st.map fun v => v.category).sum ≤ 8) (hcs : cells ≤ X.2.2.2.1.cells ∧ slots ≤ X.2.2.2.1.slots) (d : decode cc pc = .ok (.invokevirtual idx, 3)) (k : ∀ x : Int, V X w nL P n cells slots res (K x) σ (pc + 3) lv (I x :: st)) : V X w nL P n cells slots res (sln z K) σ pc lv sk := fun H locs ls hR9 hS hl hK => by
  obtain ⟨hz, hK⟩ := gd hK
  exact v_callSt C [] st hz (Cee.of (rm := r_length) tw_585 tw_17 h_length rfl rfl hR (Nat.le_trans (Nat.le_of_ble_eq_true rfl) hf) (Nat.le_trans (Nat.le_of_ble_eq_true rfl) hlo)) (k_length X.2.1 w P n hz) h1 tw_583 h2 rfl rfl hsk hsum hcs d (k _) H locs ls hR9 hS hl hK
theorem v_sch {idx : Nat} {z i : Int} {K : Int → Option α} {R : Room} {sk : List Value} (C : Cok X w cc nL own ret) (st : List Value) (h1 : Cond.methodLink own idx yJ0_charAt_5068e ∈ TB) (h2 : Cond.selects RJ0 yJ0_charAt_5068e yJ0_charAt_5068e ∈ TB) (hR : X.2.2.2.1 = R) (hf : 7 ≤ R.frames) (hlo : 180 ≤ R.locals) (hsk : sk = I i :: A w z :: st) (hsum : (st.map fun v => v.category).sum ≤ 8) (hcs : cells ≤ X.2.2.2.1.cells ∧ slots ≤ X.2.2.2.1.slots) (d : decode cc pc = .ok (.invokevirtual idx, 3)) (k : ∀ x : Int, V X w nL P n cells slots res (K x) σ (pc + 3) lv (I x :: st)) : V X w nL P n cells slots res (sch z i K) σ pc lv sk := fun H locs ls hR9 hS hl hK => by
  obtain ⟨⟨hz1, hz2, h3, h4⟩, hK⟩ := gd hK
  exact v_callSt C [I i] st ⟨hz1, hz2⟩ (Cee.of (rm := r_charAt) tw_853 tw_17 h_charAt rfl rfl hR (Nat.le_trans (Nat.le_of_ble_eq_true rfl) hf) (Nat.le_trans (Nat.le_of_ble_eq_true rfl) hlo)) (k_charAt X.2.1 w P n ⟨hz1, hz2⟩ h3 h4) h1 tw_851 h2 rfl rfl hsk hsum hcs d (k _) H locs ls hR9 hS hl hK
theorem h_getB : yJ0_getBytes_840e7.cls ≠ "java/lang/invoke/MethodHandle" ∧ yJ0_getBytes_840e7.cls ≠ "java/lang/invoke/VarHandle" ∧ (parseMethodDescriptor yJ0_getBytes_840e7.desc).map (fun d => d.parameters.length) = some 3 := by decide +kernel
abbrev r_getB : Room := { frames := 1, cells := 0, slots := 0, locals := 40 }
theorem ishl0 {x : Int} (h : inR x) : ishl x 0 = x := by
  show (Int32.ofInt x <<< (Int32.ofInt 0 &&& 31)).toInt = x
  rw [show Int32.ofInt 0 = 0 from rfl, sb_shl0, i32_toInt h]
theorem okG_R {P : Shp} {w : Wd} {n : Nat} {σ : St} {H : Heap} {z b i : Int} (hR : Rep w P n σ H) (h : okG P z b i = true) : inR i := by
  obtain ⟨l, hb, h0, h1⟩ := okG_of h
  have := hR.len hb
  have : 0 ≤ lenL z := by unfold lenL; omega
  exact ⟨by omega, by omega⟩
/-- getBytes as the bytecode has it: the coder given must be 0 -/
def gBz (P : Shp) (σ : St) (z b i c : Int) (K : St → Option α) : Option α := if c = 0 ∧ inR i then gBy P σ z b i K else none
theorem k_getB (l : Launch) (w : Wd) (P : Shp) (n : Nat) {s s' : St} {z b i : Int} (hz : isLit z) (hi : inR i) (h : gBy P s z b i some = some s') : Ct l w yJ0_getBytes_840e7 cJ0_getBytes_840e7 4 none r_getB P n [A w z, A w b, I i, I 0] s (QV w P n s') :=
  Ct.of (α := St) (F := jne 0 0 none (gBy P s z b i some)) (res := s') (by unfold jne; rw [if_pos ⟨by decide, by decide⟩, if_pos rfl]; exact h) (by decide) (Nat.le_of_ble_eq_true rfl) (lv := [(0, A w z), (1, A w b), (2, I i), (3, I 0)]) rfl fun X hl hRm C hO => by
  subst hl
  refine v_aload_n C dJ0_getBytes_840e7_0 rfl (j := 0) rfl ?_
  refine v_callSt C [] [] hz (Cee.of (rm := r_coder) tw_589 tw_17 h_coder rfl rfl hRm (Nat.le_of_ble_eq_true rfl) (Nat.le_of_ble_eq_true rfl)) (k_coder X.2.1 w P n hz) tw_586 tw_587 tw_588 rfl rfl rfl (Nat.le_of_ble_eq_true rfl) ⟨Nat.zero_le _, Nat.zero_le _⟩ dJ0_getBytes_840e7_1 ?_
  refine v_iload_n C dJ0_getBytes_840e7_4 rfl (j := 3) rfl ?_
  refine v_icmp_ne (tgt := 28) C dJ0_getBytes_840e7_5 rfl v_none ?_
  refine v_aload_n C dJ0_getBytes_840e7_8 rfl (j := 0) rfl ?_
  refine v_sval C hz tw_1180 dJ0_getBytes_840e7_9 ?_
  refine v_iconst C dJ0_getBytes_840e7_12 ?_
  refine v_aload_n C dJ0_getBytes_840e7_13 rfl (j := 1) rfl ?_
  refine v_iload_n C dJ0_getBytes_840e7_14 rfl (j := 2) rfl ?_
  refine v_iload_n C dJ0_getBytes_840e7_15 rfl (j := 3) rfl ?_
  refine v_ishl C dJ0_getBytes_840e7_16 ?_
  rw [ishl0 hi]
  refine v_aload_n C dJ0_getBytes_840e7_17 rfl (j := 0) rfl ?_
  refine v_sval C hz tw_1180 dJ0_getBytes_840e7_18 ?_
  refine v_slen C hz dJ0_getBytes_840e7_21 ?_
  refine v_copyT C tw_712 tw_537 tw_536 tw_14 (by rw [hRm]; exact Nat.le_of_ble_eq_true rfl) (by rw [hRm]; exact Nat.le_of_ble_eq_true rfl) rfl (Nat.le_of_ble_eq_true rfl) dJ0_getBytes_840e7_22 (fun x => ?_)
  refine v_goto (tgt := 43) C dJ0_getBytes_840e7_25 rfl ?_
  exact v_vret C rfl hO (fun h => Option.some.inj h) dJ0_getBytes_840e7_43
def isL (z : Int) (K : Option α) : Option α := if isLit z then K else none
theorem v_cod {idx : Nat} {z : Int} {K : Option α} {R : Room} {sk : List Value} (C : Cok X w cc nL own ret) (st : List Value) (h1 : Cond.methodLink own idx yJ0_coder_7d493 ∈ TB) (hi : Cond.instanceMethod yJ0_coder_7d493 ∈ TB) (h2 : Cond.selects RJ0 yJ0_coder_7d493 yJ0_coder_7d493 ∈ TB) (hR : X.2.2.2.1 = R) (hf : 7 ≤ R.frames) (hlo : 180 ≤ R.locals) (hsk : sk = A w z :: st) (hsum : (st.map fun v => v.category).sum ≤ 8) (hcs : cells ≤ X.2.2.2.1.cells ∧ slots ≤ X.2.2.2.1.slots) (d : decode cc pc = .ok (.invokevirtual idx, 3)) (k : V X w nL P n cells slots res K σ (pc + 3) lv (I 0 :: st)) : V X w nL P n cells slots res (isL z K) σ pc lv sk := fun H locs ls hR9 hS hl hK => by
  obtain ⟨hz, hK⟩ := gd hK
  exact v_callSt C [] st hz (Cee.of (rm := r_coder) tw_589 tw_17 h_coder rfl rfl hR (Nat.le_trans (Nat.le_of_ble_eq_true rfl) hf) (Nat.le_trans (Nat.le_of_ble_eq_true rfl) hlo)) (k_coder X.2.1 w P n hz) h1 hi h2 rfl rfl hsk hsum hcs d k H locs ls hR9 hS hl hK
theorem v_getb {idx : Nat} {z b i c : Int} {K : St → Option α} {R : Room} {sk : List Value} (C : Cok X w cc nL own ret) (st : List Value) (h1 : Cond.methodLink own idx yJ0_getBytes_840e7 ∈ TB) (hi : Cond.instanceMethod yJ0_getBytes_840e7 ∈ TB) (h2 : Cond.selects RJ0 yJ0_getBytes_840e7 yJ0_getBytes_840e7 ∈ TB) (hR : X.2.2.2.1 = R) (hf : 7 ≤ R.frames) (hlo : 180 ≤ R.locals) (hsk : sk = I c :: I i :: A w b :: A w z :: st) (hsum : (st.map fun v => v.category).sum ≤ 8) (hcs : cells ≤ X.2.2.2.1.cells ∧ slots ≤ X.2.2.2.1.slots) (d : decode cc pc = .ok (.invokevirtual idx, 3)) (k : ∀ x : St, V X w nL P n cells slots res (K x) x (pc + 3) lv st) : V X w nL P n cells slots res (gBz P σ z b i c K) σ pc lv sk := fun H locs ls hR9 hS hl hK => by
  obtain ⟨⟨hc0, hii⟩, hK0⟩ := gd hK
  obtain ⟨⟨hz, hg⟩, hK1⟩ := gd hK0
  subst hc0
  have hF : gBy P σ z b i some = some (lps σ z b i) := by unfold gBy; rw [if_pos ⟨hz, hg⟩]
  exact v_afterV (v_runSt C hz (Cee.of (rm := r_getB) tw_711 tw_17 h_getB rfl rfl hR (Nat.le_trans (Nat.le_of_ble_eq_true rfl) hf) (Nat.le_trans (Nat.le_of_ble_eq_true rfl) hlo)) (k_getB X.2.1 w P n hz hii hF) h1 hi h2 rfl hR9 hS rfl hsk hsum hcs hl.1 d) hS hR9 hl hK1 (k _)
theorem v_chki {idx : Nat} {i m : Int} {K : Option α} {R : Room} {sk : List Value} (C : Cok X w cc nL own ret) (st : List Value) (h1 : Cond.methodLink own idx yJ0_checkIndex_df160 ∈ TB) (hi : Cond.static yJ0_checkIndex_df160 ∈ TB) (hR : X.2.2.2.1 = R) (hf : 7 ≤ R.frames) (hlo : 180 ≤ R.locals) (hsk : sk = I m :: I i :: st) (hsum : (st.map fun v => v.category).sum ≤ 8) (hcs : cells ≤ X.2.2.2.1.cells ∧ slots ≤ X.2.2.2.1.slots) (d : decode cc pc = .ok (.invokestatic idx, 3)) (k : V X w nL P n cells slots res K σ (pc + 3) lv st) : V X w nL P n cells slots res (chkI i m K) σ pc lv sk := fun H locs ls hR9 hS hl hK => by
  obtain ⟨⟨h3, h4, h5⟩, hK⟩ := gd hK
  exact v_callLV C [I i, I m] st (Cee.of (rm := r_checkIndex) tw_771 tw_17 h_checkIndex rfl rfl hR (Nat.le_trans (Nat.le_of_ble_eq_true rfl) hf) (Nat.le_trans (Nat.le_of_ble_eq_true rfl) hlo)) (k_checkIndex X.2.1 w P n h3 h4 h5) h1 hi rfl hsk hsum hcs d k H locs ls hR9 hS hl hK
def bud (m : Nat) (K : Option α) : Option α := if m ≤ 1000 then K else none
theorem v_bud {m : Nat} {K : Option α} (k : m ≤ 1000 → V X w nL P n cells slots res K σ pc lv st) : V X w nL P n cells slots res (bud m K) σ pc lv st := fun H locs ls hR hS hl hK => by
  obtain ⟨h, hK⟩ := gd hK
  exact k h H locs ls hR hS hl hK
end VX
