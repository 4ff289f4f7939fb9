/-! ===== both memories at the start; all calls ===== -/
theorem cz {k i : Nat} (h1 : k ≠ 13) (h2 : k ≠ 2) : u0C.1 k i = 0 := by
  show (if k = 13 ∧ i < 8 then (-1 : Int32) else if k = 2 ∧ i = 3 then 2 else 0) = 0
  rw [if_neg (fun w => h1 w.1), if_neg (fun w => h2 w.1)]
theorem rz {k i : Nat} (h1 : k ≠ 2) (h2 : k ≠ 0 ∨ i ≠ 32) : u0R.1 k i = 0 := by
  show (if k = 2 ∧ i < 8 then (-1 : Int32) else if k = 0 ∧ i = 32 then -1000000 else 0) = 0
  rw [if_neg (fun w => h1 w.1), if_neg (fun w => by omega)]
theorem c2z {i : Nat} (h : i ≠ 3) : u0C.1 2 i = 0 := by
  show (if 2 = 13 ∧ i < 8 then (-1 : Int32) else if 2 = 2 ∧ i = 3 then 2 else 0) = 0
  rw [if_neg (fun w => absurd w.1 (by decide)), if_neg (fun w => h w.2)]
theorem rel0 : Rel u0C u0R := by
  have r5 : ∀ i, u0R.1 5 i = 0 := fun i => rz (by decide) (Or.inl (by decide))
  refine ⟨fun a ha => ?_, ?_, ⟨0, by decide, c2z (by decide), rz (by decide) (Or.inr (by decide)), fun i hi => absurd hi (by omega)⟩, ?_, ?_, ?_, Or.inl ⟨cz (by decide) (by decide), rz (by decide) (Or.inl (by decide))⟩, Or.inl ⟨cz (by decide) (by decide), rz (by decide) (Or.inl (by decide))⟩, ⟨0, by decide, cz (by decide) (by decide), rz (by decide) (Or.inr (by decide)), fun i hi => absurd hi (by omega)⟩, ⟨0, by decide, cz (by decide) (by decide), rz (by decide) (Or.inr (by decide)), fun i hi => absurd hi (by omega)⟩, ?_⟩
  · have e1 : u0C.1 13 a = -1 := by
      show (if 13 = 13 ∧ a < 8 then (-1 : Int32) else if 13 = 2 ∧ a = 3 then 2 else 0) = -1
      rw [if_pos ⟨rfl, ha⟩]
    have e2 : u0R.1 2 a = -1 := by
      show (if 2 = 2 ∧ a < 8 then (-1 : Int32) else if 2 = 0 ∧ a = 32 then -1000000 else 0) = -1
      rw [if_pos ⟨rfl, ha⟩]
    refine ⟨by rw [e1, e2], Or.inl e2, ⟨0, by decide, rz (by decide) (Or.inl (by decide))⟩, fun w => absurd e2 w, fun i hi => ?_⟩
    show u0C.1 (55 + a) i = _
    rw [cz (by omega) (by omega), rz (by decide) (Or.inl (by decide))]
  · rw [cz (by decide) (by decide), rz (by decide) (Or.inr (by decide))]
  · rw [c2z (by decide), rz (by decide) (Or.inr (by decide))]
  · refine ⟨0, 0, 0, ⟨⟨r5 _, by decide, r5 _, by decide, r5 _, by decide⟩, Or.inl (r5 _), ⟨⟨0, by decide, r5 _⟩, ⟨0, by decide, r5 _⟩, ⟨0, by decide, r5 _⟩, ⟨0, by decide, r5 _⟩, ⟨0, by decide, r5 _⟩, ⟨0, by decide, r5 _⟩⟩, fun j hj => absurd hj (by omega), fun t ht => ⟨0, by decide, r5 _⟩, fun j hj => absurd hj (by omega), fun j hj => absurd hj (by omega), fun i hi => ⟨⟨0, by decide, r5 _⟩, Or.inl (r5 _)⟩⟩, ⟨fun i hi => ?_, fun k hk => cz (by decide) (by decide), fun j hj => absurd hj (by omega), fun j hj => absurd hj (by omega)⟩, ⟨?_, ?_, fun t ht => ?_, fun i hi => ⟨?_, ?_, ?_⟩, fun j hj => absurd hj (by omega), fun i hi _ => Or.inl (cz (by decide) (by decide))⟩⟩
    all_goals rw [cz (by decide) (by decide), r5]
  · exact ⟨0, 0, by decide, by decide, cz (by decide) (by decide), cz (by decide) (by decide), rz (by decide) (Or.inr (by decide)), fun j hj => absurd hj (by omega)⟩
  · show (if 0 = 2 ∧ 32 < 8 then (-1 : Int32) else if 0 = 0 ∧ 32 = 32 then -1000000 else 0) = -1000000
    rw [if_neg (by decide), if_pos (by decide)]
theorem simAll : SimAll Rel := ⟨sim_row, sim_set, sim_copy, sim_drop, sim_feed, sim_orchard, sim_fault, sim_undo, sim_plan, sim_raid, sim_grow, sim_write, sim_tear, sim_raider, sim_tree, sim_far, sim_ahead, sim_raiderAhead, sim_safe, sim_bestAlone, sim_watch, sim_days, sim_daysValue, sim_shares, sim_bare, sim_who, sim_sleep, sim_quietest, sim_image, sim_restore, sim_kind, sim_as, sim_ask, sim_trace, sim_count, sim_status⟩
