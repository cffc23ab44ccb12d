/-! 132: StoneBacks.feed(IIIII)I -/
set_option maxRecDepth 8000 in
theorem tr_132_0 {d : Nat} {h : mxH} {Q : mxO → mxH → Prop} {i1 : Int32} {i2 : Int32} {i3 : Int32} {i4 : Int32} {i5 : Int32} {vn vd vr vq : Nat} (G : mxG h) (S : mxS h vn vd vr vq) (H : (((V_85 h) = 0 → Q (.inl (some (.int (-1)))) h) ∧ (¬ (V_85 h) = 0 → (cB (mx_i h 101 1) 396 ∧ (∀ (h4 : mxH), adN i1 h h4 → (cB (mx_i h4 101 1) 396 ∧ (∀ (h10 : mxH), adN i2 h4 h10 → (cB (mx_i h10 101 1) 396 ∧ (∀ (h16 : mxH), adN i3 h10 h16 → (cB (mx_i h16 101 1) 396 ∧ (∀ (h22 : mxH), adN i4 h16 h22 → (cB (mx_i h22 101 1) 396 ∧ (∀ (h28 : mxH), adN i5 h22 h28 → Q (.inl (some (.int (mx_i h28 101 1)))) h28))))))))))))) : mx_wp (d + 1) 132 0 (mx_fr 132 [.ref 100, .int i1, .int i2, .int i3, .int i4, .int i5]) [] h Q := by
  show mx_wp (d + 1) 132 0 [some (.ref 100), some (.int i1), some (.int i2), some (.int i3), some (.int i4), some (.int i5)] [] h Q
  refine wp_steps (i' := 2) (ls' := [some (.ref 100), some (.int i1), some (.int i2), some (.int i3), some (.int i4), some (.int i5)]) (st' := [.ref 101]) (h' := h) (P := ((mxT 100).1 = 10 ∧ mxG h) ∧ True) 2 rfl rfl ⟨⟨(congrArg Prod.fst sT_100), G⟩, trivial⟩ ?_
  refine wp_call (b := false) (y' := 85) (as := [.ref 101]) (rest := []) (P := ((mxT 101).1 = mxRc 85 ∧ mxG h)) rfl (by with_unfolding_all rfl) ⟨(congrArg Prod.fst sT_101), G⟩ (Nat.le_of_ble_eq_true rfl) (sp_85 G ?_)
  show mx_wp (d + 1) 132 3 [some (.ref 100), some (.int i1), some (.int i2), some (.int i3), some (.int i4), some (.int i5)] [.int (V_85 h)] h Q
  refine wp_br (P := True) (c := ¬ (V_85 h) = 0) (t := 6) (st' := []) rfl rfl trivial (fun c1 => ?_) (fun c1 => ?_)
  · skip
    have H := H.2 c1
    refine wp_steps (i' := 9) (ls' := [some (.ref 100), some (.int i1), some (.int i2), some (.int i3), some (.int i4), some (.int i5)]) (st' := [.int i1, .ref 101]) (h' := h) (P := ((mxT 100).1 = 10 ∧ mxG h) ∧ True) 3 rfl rfl ⟨⟨(congrArg Prod.fst sT_100), G⟩, trivial⟩ ?_
    obtain ⟨o2, H⟩ := H
    refine wp_call (b := false) (y' := 86) (as := [.ref 101, .int i1]) (rest := []) (P := ((mxT 101).1 = mxRc 86 ∧ mxG h)) rfl (by with_unfolding_all rfl) ⟨(congrArg Prod.fst sT_101), G⟩ (Nat.le_of_ble_eq_true rfl) (sp_86 G o2 ?_)
    intro h4 p5
    show mx_wp (d + 1) 132 10 [some (.ref 100), some (.int i1), some (.int i2), some (.int i3), some (.int i4), some (.int i5)] [] h4 Q
    have H := H h4 p5
    have G6 : mxG h4 := mxU_G p5.1 G
    have S7 := mxS_of (mxU_r p5.1) S
    refine wp_steps (i' := 13) (ls' := [some (.ref 100), some (.int i1), some (.int i2), some (.int i3), some (.int i4), some (.int i5)]) (st' := [.int i2, .ref 101]) (h' := h4) (P := ((mxT 100).1 = 10 ∧ mxG h4) ∧ True) 3 rfl rfl ⟨⟨(congrArg Prod.fst sT_100), G6⟩, trivial⟩ ?_
    obtain ⟨o8, H⟩ := H
    refine wp_call (b := false) (y' := 86) (as := [.ref 101, .int i2]) (rest := []) (P := ((mxT 101).1 = mxRc 86 ∧ mxG h4)) rfl (by with_unfolding_all rfl) ⟨(congrArg Prod.fst sT_101), G6⟩ (Nat.le_of_ble_eq_true rfl) (sp_86 G6 o8 ?_)
    intro h10 p11
    show mx_wp (d + 1) 132 14 [some (.ref 100), some (.int i1), some (.int i2), some (.int i3), some (.int i4), some (.int i5)] [] h10 Q
    have H := H h10 p11
    have G12 : mxG h10 := mxU_G p11.1 G6
    have S13 := mxS_of (mxU_r p11.1) S7
    refine wp_steps (i' := 17) (ls' := [some (.ref 100), some (.int i1), some (.int i2), some (.int i3), some (.int i4), some (.int i5)]) (st' := [.int i3, .ref 101]) (h' := h10) (P := ((mxT 100).1 = 10 ∧ mxG h10) ∧ True) 3 rfl rfl ⟨⟨(congrArg Prod.fst sT_100), G12⟩, trivial⟩ ?_
    obtain ⟨o14, H⟩ := H
    refine wp_call (b := false) (y' := 86) (as := [.ref 101, .int i3]) (rest := []) (P := ((mxT 101).1 = mxRc 86 ∧ mxG h10)) rfl (by with_unfolding_all rfl) ⟨(congrArg Prod.fst sT_101), G12⟩ (Nat.le_of_ble_eq_true rfl) (sp_86 G12 o14 ?_)
    intro h16 p17
    show mx_wp (d + 1) 132 18 [some (.ref 100), some (.int i1), some (.int i2), some (.int i3), some (.int i4), some (.int i5)] [] h16 Q
    have H := H h16 p17
    have G18 : mxG h16 := mxU_G p17.1 G12
    have S19 := mxS_of (mxU_r p17.1) S13
    refine wp_steps (i' := 21) (ls' := [some (.ref 100), some (.int i1), some (.int i2), some (.int i3), some (.int i4), some (.int i5)]) (st' := [.int i4, .ref 101]) (h' := h16) (P := ((mxT 100).1 = 10 ∧ mxG h16) ∧ True) 3 rfl rfl ⟨⟨(congrArg Prod.fst sT_100), G18⟩, trivial⟩ ?_
    obtain ⟨o20, H⟩ := H
    refine wp_call (b := false) (y' := 86) (as := [.ref 101, .int i4]) (rest := []) (P := ((mxT 101).1 = mxRc 86 ∧ mxG h16)) rfl (by with_unfolding_all rfl) ⟨(congrArg Prod.fst sT_101), G18⟩ (Nat.le_of_ble_eq_true rfl) (sp_86 G18 o20 ?_)
    intro h22 p23
    show mx_wp (d + 1) 132 22 [some (.ref 100), some (.int i1), some (.int i2), some (.int i3), some (.int i4), some (.int i5)] [] h22 Q
    have H := H h22 p23
    have G24 : mxG h22 := mxU_G p23.1 G18
    have S25 := mxS_of (mxU_r p23.1) S19
    refine wp_steps (i' := 25) (ls' := [some (.ref 100), some (.int i1), some (.int i2), some (.int i3), some (.int i4), some (.int i5)]) (st' := [.int i5, .ref 101]) (h' := h22) (P := ((mxT 100).1 = 10 ∧ mxG h22) ∧ True) 3 rfl rfl ⟨⟨(congrArg Prod.fst sT_100), G24⟩, trivial⟩ ?_
    obtain ⟨o26, H⟩ := H
    refine wp_call (b := false) (y' := 86) (as := [.ref 101, .int i5]) (rest := []) (P := ((mxT 101).1 = mxRc 86 ∧ mxG h22)) rfl (by with_unfolding_all rfl) ⟨(congrArg Prod.fst sT_101), G24⟩ (Nat.le_of_ble_eq_true rfl) (sp_86 G24 o26 ?_)
    intro h28 p29
    show mx_wp (d + 1) 132 26 [some (.ref 100), some (.int i1), some (.int i2), some (.int i3), some (.int i4), some (.int i5)] [] h28 Q
    have H := H h28 p29
    have G30 : mxG h28 := mxU_G p29.1 G24
    have S31 := mxS_of (mxU_r p29.1) S25
    refine wp_steps (i' := 29) (ls' := [some (.ref 100), some (.int i1), some (.int i2), some (.int i3), some (.int i4), some (.int i5)]) (st' := [.int (mx_i h28 101 1)]) (h' := h28) (P := ((mxT 100).1 = 10 ∧ mxG h28) ∧ ((mxT 101).1 = 8 ∧ mxG h28) ∧ True) 3 rfl rfl ⟨⟨(congrArg Prod.fst sT_100), G30⟩, ⟨(congrArg Prod.fst sT_101), G30⟩, trivial⟩ ?_
    exact wp_end (o := .inl (some (.int (mx_i h28 101 1)))) (h' := h28) (P := True) rfl rfl trivial H
  · have c1 := Decidable.of_not_not c1
    have H := H.1 c1
    refine wp_steps (i' := 5) (ls' := [some (.ref 100), some (.int i1), some (.int i2), some (.int i3), some (.int i4), some (.int i5)]) (st' := [.int (-1)]) (h' := h) (P := True) 1 rfl rfl trivial ?_
    exact wp_end (o := .inl (some (.int (-1)))) (h' := h) (P := True) rfl rfl trivial H
