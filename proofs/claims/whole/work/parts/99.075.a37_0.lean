/-! 271: StoneBacksModel.gives(IIII)Z -/
set_option maxRecDepth 8000 in
theorem tr_271_0 {d : Nat} {h : mxH} {Q : mxO → mxH → Prop} {i1 : Int32} {i2 : Int32} {i3 : Int32} {i4 : Int32} (G : mxG h)  (H : (vp_in i1 6 ∧ (((mx_i h 390 i1.toNatClampNeg) < i2 → Q (.inl (some (.int 0))) h) ∧ (¬ (mx_i h 390 i1.toNatClampNeg) < i2 → (∀ h3, h3 = mx_wi h 390 i1.toNatClampNeg ((mx_i h 390 i1.toNatClampNeg) - i2) → ((∃ (q : Nat × Nat × Nat × (Nat → Nat)), okGv h3 i3 i4 q.1 q.2.1 q.2.2.1 q.2.2.2) ∧ (∀ (x7 : Int32) (h8 : mxH), p268 i3 i4 h3 x7 h8 → ((x7 = 0 → (∀ h12, h12 = mx_wi h8 390 i1.toNatClampNeg ((mx_i h8 390 i1.toNatClampNeg) + i2) → Q (.inl (some (.int 0))) h12)) ∧ (¬ x7 = 0 → Q (.inl (some (.int 1))) h8))))))))) : mx_wp (d + 3) 271 0 (mx_fr 271 [.ref 381, .int i1, .int i2, .int i3, .int i4]) [] h Q := by
  show mx_wp (d + 3) 271 0 [some (.ref 381), some (.int i1), some (.int i2), some (.int i3), some (.int i4)] [] h Q
  obtain ⟨o1, H⟩ := H
  refine wp_steps (i' := 5) (ls' := [some (.ref 381), some (.int i1), some (.int i2), some (.int i3), some (.int i4)]) (st' := [.int (mx_i h 390 i1.toNatClampNeg), .int i2]) (h' := h) (P := ((mxT 381).1 = 11 ∧ mxG h) ∧ (((mxT 390).1 = 50 ∧ mxG h) ∧ vp_in i1 (mxT 390).2) ∧ True) 5 rfl rfl ⟨⟨(congrArg Prod.fst sT_381), G⟩, (cA sT_390 G o1), trivial⟩ ?_
  refine wp_br (P := True) (c := i2 ≤ (mx_i h 390 i1.toNatClampNeg)) (t := 8) (st' := []) rfl rfl trivial (fun c2 => ?_) (fun c2 => ?_)
  · have c2 := Int32.not_lt.mpr c2
    have H := H.2 c2
    refine wp_steps (i' := 16) (ls' := [some (.ref 381), some (.int i1), some (.int i2), some (.int i3), some (.int i4)]) (st' := []) (h' := mx_wi h 390 i1.toNatClampNeg ((mx_i h 390 i1.toNatClampNeg) - i2)) (P := ((mxT 381).1 = 11 ∧ mxG h) ∧ (((mxT 390).1 = 50 ∧ mxG h) ∧ vp_in i1 (mxT 390).2) ∧ (((mxT 390).1 = 50 ∧ mxG h) ∧ vp_in i1 (mxT 390).2) ∧ True) 8 rfl rfl ⟨⟨(congrArg Prod.fst sT_381), G⟩, (cA sT_390 G o1), (cA sT_390 G o1), trivial⟩ ?_
    obtain ⟨h3, e4⟩ : ∃ z9, z9 = mx_wi h 390 i1.toNatClampNeg ((mx_i h 390 i1.toNatClampNeg) - i2) := ⟨_, rfl⟩
    rw [← e4]
    have H := H h3 e4
    have G5 : mxG h3 := e4 ▸ mxG_wi G
    refine wp_steps (i' := 19) (ls' := [some (.ref 381), some (.int i1), some (.int i2), some (.int i3), some (.int i4)]) (st' := [.int i4, .int i3, .ref 381]) (h' := h3) (P := True) 3 rfl rfl trivial ?_
    obtain ⟨o6, H⟩ := H
    refine wp_call (b := false) (y' := 268) (as := [.ref 381, .int i3, .int i4]) (rest := []) (P := ((mxT 381).1 = mxRc 268 ∧ mxG h3)) rfl (by with_unfolding_all rfl) ⟨(congrArg Prod.fst sT_381), G5⟩ (Nat.le_of_ble_eq_true rfl) (sp_268 G5 o6 ?_)
    intro x7 h8 p9
    show mx_wp (d + 3) 271 20 [some (.ref 381), some (.int i1), some (.int i2), some (.int i3), some (.int i4)] [.int x7] h8 Q
    have H := H x7 h8 p9
    have G10 : mxG h8 := mxU_G p9.1 G5
    refine wp_br (P := True) (c := x7 = 0) (t := 23) (st' := []) rfl rfl trivial (fun c11 => ?_) (fun c11 => ?_)
    · skip
      have H := H.1 c11
      refine wp_steps (i' := 31) (ls' := [some (.ref 381), some (.int i1), some (.int i2), some (.int i3), some (.int i4)]) (st' := []) (h' := mx_wi h8 390 i1.toNatClampNeg ((mx_i h8 390 i1.toNatClampNeg) + i2)) (P := ((mxT 381).1 = 11 ∧ mxG h8) ∧ (((mxT 390).1 = 50 ∧ mxG h8) ∧ vp_in i1 (mxT 390).2) ∧ (((mxT 390).1 = 50 ∧ mxG h8) ∧ vp_in i1 (mxT 390).2) ∧ True) 8 rfl rfl ⟨⟨(congrArg Prod.fst sT_381), G10⟩, (cA sT_390 G10 o1), (cA sT_390 G10 o1), trivial⟩ ?_
      obtain ⟨h12, e13⟩ : ∃ z9, z9 = mx_wi h8 390 i1.toNatClampNeg ((mx_i h8 390 i1.toNatClampNeg) + i2) := ⟨_, rfl⟩
      rw [← e13]
      have H := H h12 e13
      have G14 : mxG h12 := e13 ▸ mxG_wi G10
      refine wp_steps (i' := 32) (ls' := [some (.ref 381), some (.int i1), some (.int i2), some (.int i3), some (.int i4)]) (st' := [.int 0]) (h' := h12) (P := True) 1 rfl rfl trivial ?_
      exact wp_end (o := .inl (some (.int 0))) (h' := h12) (P := ((0 : Int32) = 0 ∨ (0 : Int32) = 1)) rfl rfl (Or.inl rfl) H
    · skip
      have H := H.2 c11
      refine wp_steps (i' := 22) (ls' := [some (.ref 381), some (.int i1), some (.int i2), some (.int i3), some (.int i4)]) (st' := [.int 1]) (h' := h8) (P := True) 1 rfl rfl trivial ?_
      exact wp_end (o := .inl (some (.int 1))) (h' := h8) (P := ((1 : Int32) = 0 ∨ (1 : Int32) = 1)) rfl rfl (Or.inr rfl) H
  · have c2 := Int32.not_le.mp c2
    have H := H.1 c2
    refine wp_steps (i' := 7) (ls' := [some (.ref 381), some (.int i1), some (.int i2), some (.int i3), some (.int i4)]) (st' := [.int 0]) (h' := h) (P := True) 1 rfl rfl trivial ?_
    exact wp_end (o := .inl (some (.int 0))) (h' := h) (P := ((0 : Int32) = 0 ∨ (0 : Int32) = 1)) rfl rfl (Or.inl rfl) H
