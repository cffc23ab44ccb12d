/-! ALL CALLS, WITH WHAT IS LEFT AS A PREMISE -/
theorem LWd_c : LWc LWd := by
  intro u r w
  obtain ⟨W, a, b⟩ := w
  cases W with
  | none =>
    have a : u 0 0 = 0 := a
    have b : r 1 = -1 := b
    exact ⟨.inl a, by rw [if_pos a, b]⟩
  | some Ls =>
    have a1 : u 0 0 = 1 := a.1
    have a2 : u 0 1 = nI Ls.length := a.2.1.1
    have b1 : r 1 = nI Ls.length := b.2.1
    exact ⟨.inr a1, by rw [if_neg (by rw [a1]; decide), a2, b1]⟩
theorem all_ops (shr : ∀ x0 x1 : Int32, Op LWd 157 270 [.int x0, .int x1] (fun k => if k = 2 then 1 else 0)) : Ops LWd := ⟨fun x0 x1 x2 x3 x4 => op_feed LWd_ok x0 x1 x2 x3 x4, fun x0 => op_end LWd_ok x0, op_valley, op_law, op_fault LWd_ok, fun x0 x1 => op_person LWd_ok x0 x1, fun x0 x1 => op_does x0 x1, fun x0 x1 => op_stone LWd_ok x0 x1, fun x0 x1 => op_place LWd_ok x0 x1, fun x0 x1 x2 => op_lend LWd_ok x0 x1 x2, fun x0 => op_pay LWd_ok x0, fun x0 => op_split LWd_ok x0, fun x0 x1 => op_pass LWd_ok x0 x1, fun x0 => op_lay LWd_ok x0, fun x0 x1 => op_lift LWd_ok x0 x1, fun x0 x1 => op_goal LWd_ok x0 x1, fun x0 => op_rest LWd_ok x0, fun x0 => op_hours x0, fun x0 x1 => op_way LWd_ok x0 x1, fun x0 => op_soonest LWd_ok x0, fun x0 => op_cross LWd_ok x0, fun x0 => op_shed LWd_ok x0, shr, op_goes, fun x0 x1 => op_pays LWd_ok x0 x1, fun x0 => op_first x0, fun x0 x1 => op_owes LWd_ok x0 x1, fun x0 x1 x2 => op_rests LWd_ok x0 x1 x2, fun x0 => op_scales x0, op_weigh, op_meet LWd_ok, fun x0 => op_last x0, op_heap LWd_ok, op_pairs LWd_ok, op_heaviest LWd_ok, fun x0 => op_gravel x0, fun x0 x1 x2 => op_ahead x0 x1 x2, fun x0 x1 => op_trial x0 x1, fun x0 x1 => op_span x0 x1, fun x0 x1 => op_led LWd_ok x0 x1, fun x0 x1 => op_log LWd_ok x0 x1, fun x0 => op_seed LWd_ok x0, op_undo LWd_ok, op_image LWd_ok LWd_c, op_back LWd_ok LWd_c, fun x0 => op_count LWd_ok LWd_c x0⟩
