theorem i_vc (xs : Nat → Int32) (L : Nat) (hL : L ≤ 260) : wpL_law (fun r => r = 1) L xs := by
  unfold wpL_law
  refine sx_cell (j := 0) rfl (by omega) hL (fun r1 => sx_cell (j := 1) rfl (by omega) hL (fun r2 => ⟨15, 2340, by omega, by omega, ?_⟩))
  unfold wpX_init
  refine ⟨by decide, by decide, by decide, by decide, by decide, by decide, by decide, by decide, by decide, by decide, by decide, by decide, by decide, by decide, by decide, by decide, by decide, by decide, by decide, by decide, by decide, by decide, by decide, by decide, by decide, by decide, by decide, by decide, by decide, by decide, ?_⟩
  refine sx_clamp 1 16 (by omega) (by omega) (fun a a1 a2 => sx_clamp 16 250 (by omega) (by omega) (fun b b1 b2 => sx_clamp 0 8 (by omega) (by omega) (fun c c1 c2 => sx_initial ?_)))
  refine ⟨L + 1, sl_43 (post := fun r => r = 1) hL rfl L 2 (by omega) (by omega) _ _ _ _ _ _ _ _ _ _ _ _ _ _ _ _ _ _ _ _ _ _ _ _ _ _ _ _ _ _ _ _ _ ?_⟩
  exact sp_ok0 a2 b2 (fun i hi => ⟨0, by omega, rfl⟩) (fun i hi => ⟨0, by omega, rfl⟩)
