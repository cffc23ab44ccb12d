/-! 159: StoneBacks.meet()I -/
set_option maxRecDepth 8000 in
theorem tr_159_0 {d : Nat} {h : mxH} {Q : mxO → mxH → Prop} {vn vd vr vq : Nat} (G : mxG h) (S : mxS h vn vd vr vq) (H : (cB (mx_i h (vn + 1) 0) 6 ∧ cB (mx_i h (vn + 7) 0) 10 ∧ plOk h vn ∧ Q (.inl (some (.int (V_118 h vn)))) h)) : mx_wp (d + 4) 159 0 (mx_fr 159 [.ref 100]) [] h Q := by
  show mx_wp (d + 4) 159 0 [some (.ref 100)] [] h Q
  refine wp_steps (i' := 2) (ls' := [some (.ref 100)]) (st' := [.ref (mx_r h 100 4)]) (h' := h) (P := ((mxT 100).1 = 10 ∧ mxG h) ∧ True) 2 rfl rfl ⟨⟨(congrArg Prod.fst sT_100), G⟩, trivial⟩ ?_
  rw [mxS_4 S]
  obtain ⟨o1, o2, o3, H⟩ := H
  refine wp_call (b := false) (y' := 118) (as := [.ref vn]) (rest := []) (P := ((mxT vn).1 = mxRc 118 ∧ mxG h)) rfl (by with_unfolding_all rfl) ⟨(congrArg Prod.fst (sV_0 (mxS_vn S))), G⟩ (Nat.le_of_ble_eq_true rfl) (sp_118 G (mxS_vn S) o1 o2 o3 ?_)
  show mx_wp (d + 4) 159 3 [some (.ref 100)] [.int (V_118 h vn)] h Q
  exact wp_end (o := .inl (some (.int (V_118 h vn)))) (h' := h) (P := True) rfl rfl trivial H
