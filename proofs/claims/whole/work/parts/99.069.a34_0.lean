/-! 158: StoneBacks.goes()I -/
set_option maxRecDepth 8000 in
theorem tr_158_0 {d : Nat} {h : mxH} {Q : mxO → mxH → Prop} {vn vd vr vq : Nat} (G : mxG h) (S : mxS h vn vd vr vq) (H : ((∃ (q : (Nat → Int32) × Nat × Nat × Nat), CpN (vw h vn) q.1 q.2.1 q.2.2.1 q.2.2.2) ∧ (∀ (x2 : Int32) (h3 : mxH), p14 vn h x2 h3 → Q (.inl (some (.int x2))) h3))) : mx_wp (d + 2) 158 0 (mx_fr 158 [.ref 100]) [] h Q := by
  show mx_wp (d + 2) 158 0 [some (.ref 100)] [] h Q
  refine wp_steps (i' := 4) (ls' := [some (.ref 100)]) (st' := [.ref (mx_r h 100 4), .ref 109]) (h' := h) (P := ((mxT 100).1 = 10 ∧ mxG h) ∧ ((mxT 100).1 = 10 ∧ mxG h) ∧ True) 4 rfl rfl ⟨⟨(congrArg Prod.fst sT_100), G⟩, ⟨(congrArg Prod.fst sT_100), G⟩, trivial⟩ ?_
  rw [mxS_4 S]
  obtain ⟨o1, H⟩ := H
  refine wp_call (b := false) (y' := 14) (as := [.ref 109, .ref vn]) (rest := []) (P := ((mxT 109).1 = mxRc 14 ∧ mxG h)) rfl (by with_unfolding_all rfl) ⟨(congrArg Prod.fst sT_109), G⟩ (Nat.le_of_ble_eq_true rfl) (sp_14 G (mxS_vn S) o1 ?_)
  intro x2 h3 p4
  show mx_wp (d + 2) 158 5 [some (.ref 100)] [.int x2] h3 Q
  have H := H x2 h3 p4
  have G5 : mxG h3 := mxU_G p4.1 G
  have S6 := mxS_of (mxU_r p4.1) S
  exact wp_end (o := .inl (some (.int x2))) (h' := h3) (P := True) rfl rfl trivial H
