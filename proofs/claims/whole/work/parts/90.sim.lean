/-! ALL CALLS, AND THE START -/
theorem sim_all : Sim Rel := ⟨sim_house, sim_of, sim_earn, sim_row, sim_feed, sim_street, sim_told, sim_year, sim_at, sim_stays, sim_swings, sim_gift, sim_best, sim_lots, sim_build, sim_down, sim_before, sim_see, sim_lied, sim_wed, sim_odds, sim_mean, sim_book, sim_looked, sim_judge, sim_image, sim_undo, sim_act, sim_trace, sim_taken, sim_count, sim_tape, sim_item, sim_read, sim_shift⟩
theorem rel_start : Rel stC0 stM0 := by
  refine ⟨⟨0, 0, ⟨⟨rfl, by omega, rfl, by omega, by omega, fun h q1 q2 => by omega⟩, rfl, rfl, fun h q1 q2 => by omega⟩, by omega, ⟨0, 0, by omega, by omega, rfl, rfl, rfl, rfl, fun i i1 i2 => by omega, fun i i1 i2 => by omega⟩⟩, ⟨0, by omega, rfl, rfl, by decide, rfl, fun k hk => by omega⟩, rfl, fun i _ _ => rfl, ⟨0, by omega, rfl, rfl, fun i i1 i2 => by omega⟩, Or.inl ⟨rfl, rfl⟩, ⟨0, by omega, rfl, rfl, fun i i1 i2 => by omega⟩, fun k hk => ?_⟩
  have hk' : k = 0 ∨ k = 1 ∨ k = 2 ∨ k = 3 ∨ k = 4 ∨ k = 5 := by omega
  rcases hk' with e | e | e | e | e | e <;> subst e <;> exact ⟨by decide, by decide, fun _ => rfl, rfl, rfl, fun i _ _ => rfl⟩
