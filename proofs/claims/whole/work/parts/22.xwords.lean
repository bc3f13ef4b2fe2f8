theorem twt0_57 : ∀ v ∈ tws 0 57, v ∈ lw_tbl := by decide +kernel
theorem twb0_57 : ∀ v ∈ (tws 0 57).filter (fun v => !goodWord v), v ∈ bads := by decide +kernel
theorem tw0_57 : ∀ v ∈ tws 0 57, v ∈ TB ∨ v ∈ bads := fun v hv => by
  cases g : goodWord v with
  | true => exact Or.inl (List.mem_filter.mpr ⟨twt0_57 v hv, g⟩)
  | false => exact Or.inr (twb0_57 v (List.mem_filter.mpr ⟨hv, by simp [g]⟩))
theorem twt1_263 : ∀ v ∈ tws 1 263, v ∈ lw_tbl := by decide +kernel
theorem twb1_263 : ∀ v ∈ (tws 1 263).filter (fun v => !goodWord v), v ∈ bads := by decide +kernel
theorem tw1_263 : ∀ v ∈ tws 1 263, v ∈ TB ∨ v ∈ bads := fun v hv => by
  cases g : goodWord v with
  | true => exact Or.inl (List.mem_filter.mpr ⟨twt1_263 v hv, g⟩)
  | false => exact Or.inr (twb1_263 v (List.mem_filter.mpr ⟨hv, by simp [g]⟩))
theorem twt2_306 : ∀ v ∈ tws 2 306, v ∈ lw_tbl := by decide +kernel
theorem twb2_306 : ∀ v ∈ (tws 2 306).filter (fun v => !goodWord v), v ∈ bads := by decide +kernel
theorem tw2_306 : ∀ v ∈ tws 2 306, v ∈ TB ∨ v ∈ bads := fun v hv => by
  cases g : goodWord v with
  | true => exact Or.inl (List.mem_filter.mpr ⟨twt2_306 v hv, g⟩)
  | false => exact Or.inr (twb2_306 v (List.mem_filter.mpr ⟨hv, by simp [g]⟩))
theorem tg0_53_57 : ∀ v ∈ Cond.classLink RX7 53 (exN 0) :: Cond.initialized (exN 0) :: tws 0 57, vx_ot v = true := by decide +kernel
theorem tg1_259_263 : ∀ v ∈ Cond.classLink RX7 259 (exN 1) :: Cond.initialized (exN 1) :: tws 1 263, vx_ot v = true := by decide +kernel
theorem tg2_302_306 : ∀ v ∈ Cond.classLink RX7 302 (exN 2) :: Cond.initialized (exN 2) :: tws 2 306, vx_ot v = true := by decide +kernel
