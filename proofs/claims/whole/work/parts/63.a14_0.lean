/-! 229: StoneBacksModel.sum()I -/
def H_229_3 (d : Nat) (h : mxH) (i1 : Int32) (Q : mxO → mxH → Prop) : Prop := mx_wp d 229 3 [some (.ref 381), some (.int i1)] [] h Q
set_option maxRecDepth 8000 in
theorem tr_229_0 {d : Nat} {h : mxH} {Q : mxO → mxH → Prop}  (G : mxG h)  (H : (okT h ∧ (∀ (x2 : Int32) (h3 : mxH), p228 h x2 h3 → H_229_3 (d + 6) h3 x2 Q))) : mx_wp (d + 6) 229 0 (mx_fr 229 [.ref 381]) [] h Q := by
  show mx_wp (d + 6) 229 0 [some (.ref 381), none] [] h Q
  refine wp_steps (i' := 1) (ls' := [some (.ref 381), none]) (st' := [.ref 381]) (h' := h) (P := True) 1 rfl rfl trivial ?_
  obtain ⟨o1, H⟩ := H
  refine wp_call (b := false) (y' := 228) (as := [.ref 381]) (rest := []) (P := ((mxT 381).1 = mxRc 228 ∧ mxG h)) rfl (by with_unfolding_all rfl) ⟨(congrArg Prod.fst sT_381), G⟩ (Nat.le_of_ble_eq_true rfl) (sp_228 G o1 ?_)
  intro x2 h3 p4
  show mx_wp (d + 6) 229 2 [some (.ref 381), none] [.int x2] h3 Q
  have H := H x2 h3 p4
  have G5 : mxG h3 := mxK_G p4.1 G
  refine wp_steps (i' := 3) (ls' := [some (.ref 381), some (.int x2)]) (st' := []) (h' := h3) (P := True) 1 rfl rfl trivial ?_
  exact H 
set_option maxRecDepth 8000 in
theorem tr_229_3 {d : Nat} {h : mxH} {Q : mxO → mxH → Prop}  {i1 : Int32} (G : mxG h)  (H : (((mx_i h 381 12) = (-1) → (okT h ∧ (∀ (x3 : Int32) (h4 : mxH), p211 (43 : Int32) h x3 h4 → ((x3 = 0 → Q (.inl (some (.int i1))) h4) ∧ (¬ x3 = 0 → (∀ h8, h8 = mx_wi h4 381 11 ((mx_i h4 381 11) + 1) → (okT h8 ∧ (∀ (x12 : Int32) (h13 : mxH), p228 h8 x12 h13 → H_229_3 (d + 6) h13 (i1 + x12) Q)))))))) ∧ (¬ (mx_i h 381 12) = (-1) → Q (.inl (some (.int i1))) h))) : H_229_3 (d + 6) h i1 Q := by
  show mx_wp (d + 6) 229 3 [some (.ref 381), some (.int i1)] [] h Q
  refine wp_steps (i' := 6) (ls' := [some (.ref 381), some (.int i1)]) (st' := [.int (-1), .int (mx_i h 381 12)]) (h' := h) (P := ((mxT 381).1 = 11 ∧ mxG h) ∧ True) 3 rfl rfl ⟨⟨(congrArg Prod.fst sT_381), G⟩, trivial⟩ ?_
  refine wp_br (P := True) (c := ¬ (mx_i h 381 12) = (-1)) (t := 23) (st' := []) rfl rfl trivial (fun c1 => ?_) (fun c1 => ?_)
  · skip
    have H := H.2 c1
    refine wp_steps (i' := 24) (ls' := [some (.ref 381), some (.int i1)]) (st' := [.int i1]) (h' := h) (P := True) 1 rfl rfl trivial ?_
    exact wp_end (o := .inl (some (.int i1))) (h' := h) (P := True) rfl rfl trivial H
  · have c1 := Decidable.of_not_not c1
    have H := H.1 c1
    refine wp_steps (i' := 9) (ls' := [some (.ref 381), some (.int i1)]) (st' := [.int 43, .ref 381]) (h' := h) (P := True) 2 rfl rfl trivial ?_
    obtain ⟨o2, H⟩ := H
    refine wp_call (b := false) (y' := 211) (as := [.ref 381, .int 43]) (rest := []) (P := ((mxT 381).1 = mxRc 211 ∧ mxG h)) rfl (by with_unfolding_all rfl) ⟨(congrArg Prod.fst sT_381), G⟩ (Nat.le_of_ble_eq_true rfl) (sp_211 G o2 ?_)
    intro x3 h4 p5
    show mx_wp (d + 6) 229 10 [some (.ref 381), some (.int i1)] [.int x3] h4 Q
    have H := H x3 h4 p5
    have G6 : mxG h4 := mxK_G p5.1 G
    refine wp_br (P := True) (c := x3 = 0) (t := 23) (st' := []) rfl rfl trivial (fun c7 => ?_) (fun c7 => ?_)
    · skip
      have H := H.1 c7
      refine wp_steps (i' := 24) (ls' := [some (.ref 381), some (.int i1)]) (st' := [.int i1]) (h' := h4) (P := True) 1 rfl rfl trivial ?_
      exact wp_end (o := .inl (some (.int i1))) (h' := h4) (P := True) rfl rfl trivial H
    · skip
      have H := H.2 c7
      refine wp_steps (i' := 17) (ls' := [some (.ref 381), some (.int i1)]) (st' := []) (h' := mx_wi h4 381 11 ((mx_i h4 381 11) + 1)) (P := ((mxT 381).1 = 11 ∧ mxG h4) ∧ ((mxT 381).1 = 11 ∧ mxG h4) ∧ True) 6 rfl rfl ⟨⟨(congrArg Prod.fst sT_381), G6⟩, ⟨(congrArg Prod.fst sT_381), G6⟩, trivial⟩ ?_
      obtain ⟨h8, e9⟩ : ∃ z9, z9 = mx_wi h4 381 11 ((mx_i h4 381 11) + 1) := ⟨_, rfl⟩
      rw [← e9]
      have H := H h8 e9
      have G10 : mxG h8 := e9 ▸ mxG_wi G6
      refine wp_steps (i' := 19) (ls' := [some (.ref 381), some (.int i1)]) (st' := [.ref 381, .int i1]) (h' := h8) (P := True) 2 rfl rfl trivial ?_
      obtain ⟨o11, H⟩ := H
      refine wp_call (b := false) (y' := 228) (as := [.ref 381]) (rest := [.int i1]) (P := ((mxT 381).1 = mxRc 228 ∧ mxG h8)) rfl (by with_unfolding_all rfl) ⟨(congrArg Prod.fst sT_381), G10⟩ (Nat.le_of_ble_eq_true rfl) (sp_228 G10 o11 ?_)
      intro x12 h13 p14
      show mx_wp (d + 6) 229 20 [some (.ref 381), some (.int i1)] [.int x12, .int i1] h13 Q
      have H := H x12 h13 p14
      have G15 : mxG h13 := mxK_G p14.1 G10
      refine wp_steps (i' := 22) (ls' := [some (.ref 381), some (.int (i1 + x12))]) (st' := []) (h' := h13) (P := True) 2 rfl rfl trivial ?_
      refine wp_J (j := 3) (st' := []) rfl rfl ?_
      exact H 
