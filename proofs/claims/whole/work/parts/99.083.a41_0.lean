/-! 157: StoneBacks.share(II)I -/
set_option maxRecDepth 8000 in
theorem tr_157_0 {d : Nat} {h : mxH} {Q : mxO → mxH → Prop} {i1 : Int32} {i2 : Int32} {vn vd vr vq : Nat} (G : mxG h) (S : mxS h vn vd vr vq) (H : (((isI i1 12) → ((∃ (q : (Nat → Int32) × Nat × Nat × Nat), CpN (vw h vn) q.1 q.2.1 q.2.2.1 q.2.2.2) ∧ (∀ (h4 : mxH), p9 vn i1 h h4 → (((i2 = (-1) → True) ∧ (¬ i2 = (-1) → ((((mx_i h4 109 7) = (-1) → True) ∧ (¬ (mx_i h4 109 7) = (-1) → ((i2 < 0 → True) ∧ (¬ i2 < 0 → ((i2 < (mx_i h4 109 6) → (vp_in i2 10 ∧ True)) ∧ (¬ i2 < (mx_i h4 109 6) → True)))))) ∧ True))) ∧ (∀ (v8 : Int32), v8 = ((if i2 = (-1) then (V_12 h4) else (V_13 h4 i2)) : Int32) → Q (.inl (some (.int v8))) h4))))) ∧ (¬ (isI i1 12) → Q (.inr 2) (mx_ex h)))) : mx_wp (d + 20) 157 0 (mx_fr 157 [.ref 100, .int i1, .int i2]) [] h Q := by
  show mx_wp (d + 20) 157 0 [some (.ref 100), some (.int i1), some (.int i2)] [] h Q
  refine wp_steps (i' := 2) (ls' := [some (.ref 100), some (.int i1), some (.int i2)]) (st' := [.int i1, .ref 100]) (h' := h) (P := True) 2 rfl rfl trivial ?_
  refine wp_call (b := false) (y' := 186) (as := [.ref 100, .int i1]) (rest := []) (P := ((mxT 100).1 = mxRc 186 ∧ mxG h)) rfl (by with_unfolding_all rfl) ⟨(congrArg Prod.fst sT_100), G⟩ (Nat.le_of_ble_eq_true rfl) (sp_186 G S (fun c1 => ?_) (fun c1 => H.2 c1))
  show mx_wp (d + 20) 157 3 [some (.ref 100), some (.int i1), some (.int i2)] [] h Q
  have H := H.1 c1
  refine wp_steps (i' := 7) (ls' := [some (.ref 100), some (.int i1), some (.int i2)]) (st' := [.ref (mx_r h 100 4), .ref 109]) (h' := h) (P := ((mxT 100).1 = 10 ∧ mxG h) ∧ ((mxT 100).1 = 10 ∧ mxG h) ∧ True) 4 rfl rfl ⟨⟨(congrArg Prod.fst sT_100), G⟩, ⟨(congrArg Prod.fst sT_100), G⟩, trivial⟩ ?_
  rw [mxS_4 S]
  refine wp_steps (i' := 8) (ls' := [some (.ref 100), some (.int i1), some (.int i2)]) (st' := [.int i1, .ref vn, .ref 109]) (h' := h) (P := True) 1 rfl rfl trivial ?_
  obtain ⟨o2, H⟩ := H
  refine wp_call (b := false) (y' := 9) (as := [.ref 109, .ref vn, .int i1]) (rest := []) (P := ((mxT 109).1 = mxRc 9 ∧ mxG h)) rfl (by with_unfolding_all rfl) ⟨(congrArg Prod.fst sT_109), G⟩ (Nat.le_of_ble_eq_true rfl) (sp_9 G (mxS_vn S) o2 ?_)
  intro h4 p5
  show mx_wp (d + 20) 157 9 [some (.ref 100), some (.int i1), some (.int i2)] [] h4 Q
  have H := H h4 p5
  have G6 : mxG h4 := mxU_G p5.1 G
  have S7 := mxS_of (mxU_r p5.1) S
  refine wp_steps (i' := 11) (ls' := [some (.ref 100), some (.int i1), some (.int i2)]) (st' := [.int (-1), .int i2]) (h' := h4) (P := True) 2 rfl rfl trivial ?_
  have J : ∀ (v8 : Int32) (ev8 : v8 = ((if i2 = (-1) then (V_12 h4) else (V_13 h4 i2)) : Int32)), mx_wp (d + 20) 157 20 [some (.ref 100), some (.int i1), some (.int i2)] [.int v8] h4 Q := by
    intro v8 ev8
    have H := H.2 v8 ev8
    exact wp_end (o := .inl (some (.int v8))) (h' := h4) (P := True) rfl rfl trivial H
  have H := H.1
  refine wp_br (P := True) (c := ¬ i2 = (-1)) (t := 16) (st' := []) rfl rfl trivial (fun c9 => ?_) (fun c9 => ?_)
  · skip
    have H := H.2 c9
    refine wp_steps (i' := 19) (ls' := [some (.ref 100), some (.int i1), some (.int i2)]) (st' := [.int i2, .ref 109]) (h' := h4) (P := ((mxT 100).1 = 10 ∧ mxG h4) ∧ True) 3 rfl rfl ⟨⟨(congrArg Prod.fst sT_100), G6⟩, trivial⟩ ?_
    obtain ⟨o10, H⟩ := H
    refine wp_call (b := false) (y' := 13) (as := [.ref 109, .int i2]) (rest := []) (P := ((mxT 109).1 = mxRc 13 ∧ mxG h4)) rfl (by with_unfolding_all rfl) ⟨(congrArg Prod.fst sT_109), G6⟩ (Nat.le_of_ble_eq_true rfl) (sp_13 G6 o10 ?_)
    show mx_wp (d + 20) 157 20 [some (.ref 100), some (.int i1), some (.int i2)] [.int (V_13 h4 i2)] h4 Q
    exact J _ (by rw [if_neg c9])
  · have c9 := Decidable.of_not_not c9
    refine wp_steps (i' := 14) (ls' := [some (.ref 100), some (.int i1), some (.int i2)]) (st' := [.ref 109]) (h' := h4) (P := ((mxT 100).1 = 10 ∧ mxG h4) ∧ True) 2 rfl rfl ⟨⟨(congrArg Prod.fst sT_100), G6⟩, trivial⟩ ?_
    refine wp_call (b := false) (y' := 12) (as := [.ref 109]) (rest := []) (P := ((mxT 109).1 = mxRc 12 ∧ mxG h4)) rfl (by with_unfolding_all rfl) ⟨(congrArg Prod.fst sT_109), G6⟩ (Nat.le_of_ble_eq_true rfl) (sp_12 G6 ?_)
    show mx_wp (d + 20) 157 15 [some (.ref 100), some (.int i1), some (.int i2)] [.int (V_12 h4)] h4 Q
    refine wp_J (j := 20) (st' := [.int (V_12 h4)]) rfl rfl ?_
    exact J _ (by rw [if_pos c9])
