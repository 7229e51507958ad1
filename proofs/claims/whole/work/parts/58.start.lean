/-! the start, and the claim -/
theorem rel0 : Rel PP0 WP0 (s0C, (fun _ => none), [], z0C) s0M := by
  refine ⟨0, fun _ => 0, fun _ => 0, fun _ => 0, fun _ => 0, fun _ _ => false, 128, ?_, ?_, ?_, ?_, ?_, ?_, ?_, ?_, ?_, ?_, ?_, ?_⟩
  · intro j q h; cases h
  · exact ⟨by decide, fun s h => absurd h (Nat.not_lt_zero s)⟩
  · exact ⟨rfl, fun s h => absurd h (Nat.not_lt_zero s)⟩
  · exact ⟨rfl, fun s h => absurd h (Nat.not_lt_zero s)⟩
  · exact ⟨by decide, by decide, rfl, rfl⟩
  · exact Or.inl ⟨rfl, rfl⟩
  · intro c _; exact ⟨rfl, Or.inr ⟨0, by decide, rfl⟩⟩
  · exact ⟨0, by decide, rfl, rfl, Or.inl rfl, Or.inl rfl, Or.inl rfl, Or.inl rfl⟩
  · exact Or.inl ⟨rfl, rfl⟩
  · exact Or.inl ⟨rfl, rfl⟩
  · exact Or.inl ⟨rfl, rfl⟩
  · exact Or.inl ⟨rfl, rfl⟩
theorem rel_all : StepAll (Rel PP0 WP0) := ⟨t_disc, t_rim, t_line, t_block, t_sign, t_undo, t_told, t_step, t_quarter, t_cell, t_count, t_unlike, t_hem, t_after, t_sand, t_days, t_day, t_poured, t_photo, t_smear, t_cat, t_seen, t_back, t_mend, t_harm, t_again, t_bar, t_way, t_wayAt, t_heap, t_sheet, t_drop, t_item, t_show, t_keep⟩
theorem rel_ok : ∀ (u : SS) (v : Nat → Nat → Int32), Rel PP0 WP0 u v → shOK u.2.1 u.2.2.1 u.2.2.2 := by
  intro u v h
  obtain ⟨n, K, C, T, H, B, S, hOK, -⟩ := h
  exact hOK
