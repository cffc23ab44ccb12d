/-! 171: StoneBacks.gravel(I)I -/
set_option maxRecDepth 8000 in
theorem tr_171_0 {d : Nat} {h : mxH} {Q : mxO → mxH → Prop} {i1 : Int32} {vn vd vr vq : Nat} (G : mxG h) (S : mxS h vn vd vr vq) (H : (((isI i1 201) → (okG h vn vr i1 ∧ (∀ (h4 : mxH), p175 vn vd vr i1 h h4 → (cB (mx_i h4 (vd + 7) 0) 10 ∧ (cB (mx_i h4 (vn + 7) 0) 10 ∧ Q (.inl (some (.int ((V_80 h4 vd) - (V_80 h4 vn))))) h4))))) ∧ (¬ (isI i1 201) → Q (.inr 0) (mx_ex h)))) : mx_wp (d + 6) 171 0 (mx_fr 171 [.ref 100, .int i1]) [] h Q := by
  show mx_wp (d + 6) 171 0 [some (.ref 100), some (.int i1)] [] h Q
  refine wp_steps (i' := 2) (ls' := [some (.ref 100), some (.int i1)]) (st' := [.int i1, .ref 100]) (h' := h) (P := True) 2 rfl rfl trivial ?_
  refine wp_call (b := false) (y' := 187) (as := [.ref 100, .int i1]) (rest := []) (P := ((mxT 100).1 = mxRc 187 ∧ mxG h)) rfl (by with_unfolding_all rfl) ⟨(congrArg Prod.fst sT_100), G⟩ (Nat.le_of_ble_eq_true rfl) (sp_187 G S (fun c1 => ?_) (fun c1 => H.2 c1))
  show mx_wp (d + 6) 171 3 [some (.ref 100), some (.int i1)] [] h Q
  have H := H.1 c1
  refine wp_steps (i' := 5) (ls' := [some (.ref 100), some (.int i1)]) (st' := [.int i1, .ref 100]) (h' := h) (P := True) 2 rfl rfl trivial ?_
  obtain ⟨o2, H⟩ := H
  refine wp_call (b := false) (y' := 175) (as := [.ref 100, .int i1]) (rest := []) (P := ((mxT 100).1 = mxRc 175 ∧ mxG h)) rfl (by with_unfolding_all rfl) ⟨(congrArg Prod.fst sT_100), G⟩ (Nat.le_of_ble_eq_true rfl) (sp_175 G S o2 ?_)
  intro h4 p5
  show mx_wp (d + 6) 171 6 [some (.ref 100), some (.int i1)] [] h4 Q
  have H := H h4 p5
  have G6 : mxG h4 := mxU_G p5.1 G
  have S7 := mxS_of (mxU_r p5.1) S
  refine wp_steps (i' := 8) (ls' := [some (.ref 100), some (.int i1)]) (st' := [.ref (mx_r h4 100 5)]) (h' := h4) (P := ((mxT 100).1 = 10 ∧ mxG h4) ∧ True) 2 rfl rfl ⟨⟨(congrArg Prod.fst sT_100), G6⟩, trivial⟩ ?_
  rw [mxS_5 S7]
  refine wp_steps (i' := 9) (ls' := [some (.ref 100), some (.int i1)]) (st' := [.ref (vd + 7)]) (h' := h4) (P := ((mxT vd).1 = 9 ∧ mxG h4) ∧ True) 1 rfl rfl ⟨⟨(congrArg Prod.fst (sV_0 (mxS_vd S))), G6⟩, trivial⟩ ?_
  obtain ⟨o8, H⟩ := H
  refine wp_call (b := false) (y' := 80) (as := [.ref (vd + 7)]) (rest := []) (P := ((mxT (vd + 7)).1 = mxRc 80 ∧ mxG h4)) rfl (by with_unfolding_all rfl) ⟨(congrArg Prod.fst (sV_7 (mxS_vd S))), G6⟩ (Nat.le_of_ble_eq_true rfl) (sp_80 G6 (mxS_vd S) o8 ?_)
  show mx_wp (d + 6) 171 10 [some (.ref 100), some (.int i1)] [.int (V_80 h4 vd)] h4 Q
  refine wp_steps (i' := 12) (ls' := [some (.ref 100), some (.int i1)]) (st' := [.ref (mx_r h4 100 4), .int (V_80 h4 vd)]) (h' := h4) (P := ((mxT 100).1 = 10 ∧ mxG h4) ∧ True) 2 rfl rfl ⟨⟨(congrArg Prod.fst sT_100), G6⟩, trivial⟩ ?_
  rw [mxS_4 S7]
  refine wp_steps (i' := 13) (ls' := [some (.ref 100), some (.int i1)]) (st' := [.ref (vn + 7), .int (V_80 h4 vd)]) (h' := h4) (P := ((mxT vn).1 = 9 ∧ mxG h4) ∧ True) 1 rfl rfl ⟨⟨(congrArg Prod.fst (sV_0 (mxS_vn S))), G6⟩, trivial⟩ ?_
  obtain ⟨o9, H⟩ := H
  refine wp_call (b := false) (y' := 80) (as := [.ref (vn + 7)]) (rest := [.int (V_80 h4 vd)]) (P := ((mxT (vn + 7)).1 = mxRc 80 ∧ mxG h4)) rfl (by with_unfolding_all rfl) ⟨(congrArg Prod.fst (sV_7 (mxS_vn S))), G6⟩ (Nat.le_of_ble_eq_true rfl) (sp_80 G6 (mxS_vn S) o9 ?_)
  show mx_wp (d + 6) 171 14 [some (.ref 100), some (.int i1)] [.int (V_80 h4 vn), .int (V_80 h4 vd)] h4 Q
  refine wp_steps (i' := 15) (ls' := [some (.ref 100), some (.int i1)]) (st' := [.int ((V_80 h4 vd) - (V_80 h4 vn))]) (h' := h4) (P := True) 1 rfl rfl trivial ?_
  exact wp_end (o := .inl (some (.int ((V_80 h4 vd) - (V_80 h4 vn))))) (h' := h4) (P := True) rfl rfl trivial H
/-! 172: StoneBacks.ahead(III)I -/
set_option maxRecDepth 8000 in
theorem tr_172_0 {d : Nat} {h : mxH} {Q : mxO → mxH → Prop} {i1 : Int32} {i2 : Int32} {i3 : Int32} {vn vd vr vq : Nat} (G : mxG h) (S : mxS h vn vd vr vq) (H : (((isI i1 (mx_i h (vn + 1) 0)) → (((isI i2 201) → ((i3 < 0 → Q (.inr 3) (mx_ex h)) ∧ (¬ i3 < 0 → ((3 < i3 → Q (.inr 3) (mx_ex h)) ∧ (¬ 3 < i3 → (okG h vn vr i2 ∧ (∀ (h7 : mxH), p175 vn vd vr i2 h h7 → ((i3 = 0 → (vp_in i1 6 ∧ Q (.inl (some (.int (mx_i h7 (vd + 2) i1.toNatClampNeg)))) h7)) ∧ (¬ i3 = 0 → ((i3 = 1 → (vp_in i1 6 ∧ Q (.inl (some (.int (mx_i h7 (vd + 4) i1.toNatClampNeg)))) h7)) ∧ (¬ i3 = 1 → ((i3 = 2 → (vp_in i1 6 ∧ Q (.inl (some (.int (mx_i h7 (vd + 6) i1.toNatClampNeg)))) h7)) ∧ (¬ i3 = 2 → (cB (mx_i h7 (vd + 7) 0) 10 ∧ Q (.inl (some (.int (V_77 h7 vd i1)))) h7)))))))))))))) ∧ (¬ (isI i2 201) → Q (.inr 0) (mx_ex h)))) ∧ (¬ (isI i1 (mx_i h (vn + 1) 0)) → Q (.inr 2) (mx_ex h)))) : mx_wp (d + 6) 172 0 (mx_fr 172 [.ref 100, .int i1, .int i2, .int i3]) [] h Q := by
  show mx_wp (d + 6) 172 0 [some (.ref 100), some (.int i1), some (.int i2), some (.int i3)] [] h Q
  refine wp_steps (i' := 2) (ls' := [some (.ref 100), some (.int i1), some (.int i2), some (.int i3)]) (st' := [.int i1, .ref 100]) (h' := h) (P := True) 2 rfl rfl trivial ?_
  refine wp_call (b := false) (y' := 184) (as := [.ref 100, .int i1]) (rest := []) (P := ((mxT 100).1 = mxRc 184 ∧ mxG h)) rfl (by with_unfolding_all rfl) ⟨(congrArg Prod.fst sT_100), G⟩ (Nat.le_of_ble_eq_true rfl) (sp_184 G S (fun c1 => ?_) (fun c1 => H.2 c1))
  show mx_wp (d + 6) 172 3 [some (.ref 100), some (.int i1), some (.int i2), some (.int i3)] [] h Q
  have H := H.1 c1
  refine wp_steps (i' := 5) (ls' := [some (.ref 100), some (.int i1), some (.int i2), some (.int i3)]) (st' := [.int i2, .ref 100]) (h' := h) (P := True) 2 rfl rfl trivial ?_
  refine wp_call (b := false) (y' := 187) (as := [.ref 100, .int i2]) (rest := []) (P := ((mxT 100).1 = mxRc 187 ∧ mxG h)) rfl (by with_unfolding_all rfl) ⟨(congrArg Prod.fst sT_100), G⟩ (Nat.le_of_ble_eq_true rfl) (sp_187 G S (fun c2 => ?_) (fun c2 => H.2 c2))
  show mx_wp (d + 6) 172 6 [some (.ref 100), some (.int i1), some (.int i2), some (.int i3)] [] h Q
  have H := H.1 c2
  refine wp_steps (i' := 7) (ls' := [some (.ref 100), some (.int i1), some (.int i2), some (.int i3)]) (st' := [.int i3]) (h' := h) (P := True) 1 rfl rfl trivial ?_
  refine wp_br (P := True) (c := i3 < 0) (t := 11) (st' := []) rfl rfl trivial (fun c3 => ?_) (fun c3 => ?_)
  · skip
    have H := H.1 c3
    exact wp_end (o := .inr 3) (h' := mx_ex h) (P := mx_c h = 292 ∧ (([] : List Value).map mx_cat).sum ≤ 8) rfl rfl ⟨G.1, Nat.le_of_ble_eq_true rfl⟩ H
  · skip
    have H := H.2 c3
    refine wp_steps (i' := 10) (ls' := [some (.ref 100), some (.int i1), some (.int i2), some (.int i3)]) (st' := [.int 3, .int i3]) (h' := h) (P := True) 2 rfl rfl trivial ?_
    refine wp_br (P := True) (c := i3 ≤ 3) (t := 16) (st' := []) rfl rfl trivial (fun c4 => ?_) (fun c4 => ?_)
    · have c4 := Int32.not_lt.mpr c4
      have H := H.2 c4
      refine wp_steps (i' := 18) (ls' := [some (.ref 100), some (.int i1), some (.int i2), some (.int i3)]) (st' := [.int i2, .ref 100]) (h' := h) (P := True) 2 rfl rfl trivial ?_
      obtain ⟨o5, H⟩ := H
      refine wp_call (b := false) (y' := 175) (as := [.ref 100, .int i2]) (rest := []) (P := ((mxT 100).1 = mxRc 175 ∧ mxG h)) rfl (by with_unfolding_all rfl) ⟨(congrArg Prod.fst sT_100), G⟩ (Nat.le_of_ble_eq_true rfl) (sp_175 G S o5 ?_)
      intro h7 p8
      show mx_wp (d + 6) 172 19 [some (.ref 100), some (.int i1), some (.int i2), some (.int i3)] [] h7 Q
      have H := H h7 p8
      have G9 : mxG h7 := mxU_G p8.1 G
      have S10 := mxS_of (mxU_r p8.1) S
      refine wp_steps (i' := 20) (ls' := [some (.ref 100), some (.int i1), some (.int i2), some (.int i3)]) (st' := [.int i3]) (h' := h7) (P := True) 1 rfl rfl trivial ?_
      refine wp_J (j := mx_sw 0 [21, 28, 35] 42 i3) (st' := []) rfl rfl ?_
      refine wp_sw (fun (c11 : i3 = 0) => ?_) (fun (c11 : ¬ i3 = 0) => ?_)
      · have H := H.1 c11
        refine wp_steps (i' := 23) (ls' := [some (.ref 100), some (.int i1), some (.int i2), some (.int i3)]) (st' := [.ref (mx_r h7 100 5)]) (h' := h7) (P := ((mxT 100).1 = 10 ∧ mxG h7) ∧ True) 2 rfl rfl ⟨⟨(congrArg Prod.fst sT_100), G9⟩, trivial⟩ ?_
        rw [mxS_5 S10]
        obtain ⟨o12, H⟩ := H
        refine wp_steps (i' := 27) (ls' := [some (.ref 100), some (.int i1), some (.int i2), some (.int i3)]) (st' := [.int (mx_i h7 (vd + 2) i1.toNatClampNeg)]) (h' := h7) (P := ((mxT vd).1 = 9 ∧ mxG h7) ∧ ((mxT (vd + 1)).1 = 5 ∧ mxG h7) ∧ (((mxT (vd + 2)).1 = 50 ∧ mxG h7) ∧ vp_in i1 (mxT (vd + 2)).2) ∧ True) 4 rfl rfl ⟨⟨(congrArg Prod.fst (sV_0 (mxS_vd S))), G9⟩, ⟨(congrArg Prod.fst (sV_1 (mxS_vd S))), G9⟩, (cA (sV_2 (mxS_vd S)) G9 o12), trivial⟩ ?_
        exact wp_end (o := .inl (some (.int (mx_i h7 (vd + 2) i1.toNatClampNeg)))) (h' := h7) (P := True) rfl rfl trivial H
      have H := H.2 c11
      refine wp_sw (fun (c13 : i3 = 1) => ?_) (fun (c13 : ¬ i3 = 1) => ?_)
      · have H := H.1 c13
        refine wp_steps (i' := 30) (ls' := [some (.ref 100), some (.int i1), some (.int i2), some (.int i3)]) (st' := [.ref (mx_r h7 100 5)]) (h' := h7) (P := ((mxT 100).1 = 10 ∧ mxG h7) ∧ True) 2 rfl rfl ⟨⟨(congrArg Prod.fst sT_100), G9⟩, trivial⟩ ?_
        rw [mxS_5 S10]
        obtain ⟨o14, H⟩ := H
        refine wp_steps (i' := 34) (ls' := [some (.ref 100), some (.int i1), some (.int i2), some (.int i3)]) (st' := [.int (mx_i h7 (vd + 4) i1.toNatClampNeg)]) (h' := h7) (P := ((mxT vd).1 = 9 ∧ mxG h7) ∧ ((mxT (vd + 1)).1 = 5 ∧ mxG h7) ∧ (((mxT (vd + 4)).1 = 50 ∧ mxG h7) ∧ vp_in i1 (mxT (vd + 4)).2) ∧ True) 4 rfl rfl ⟨⟨(congrArg Prod.fst (sV_0 (mxS_vd S))), G9⟩, ⟨(congrArg Prod.fst (sV_1 (mxS_vd S))), G9⟩, (cA (sV_4 (mxS_vd S)) G9 o14), trivial⟩ ?_
        exact wp_end (o := .inl (some (.int (mx_i h7 (vd + 4) i1.toNatClampNeg)))) (h' := h7) (P := True) rfl rfl trivial H
      have H := H.2 c13
      refine wp_sw (fun (c15 : i3 = 2) => ?_) (fun (c15 : ¬ i3 = 2) => ?_)
      · have H := H.1 c15
        refine wp_steps (i' := 37) (ls' := [some (.ref 100), some (.int i1), some (.int i2), some (.int i3)]) (st' := [.ref (mx_r h7 100 5)]) (h' := h7) (P := ((mxT 100).1 = 10 ∧ mxG h7) ∧ True) 2 rfl rfl ⟨⟨(congrArg Prod.fst sT_100), G9⟩, trivial⟩ ?_
        rw [mxS_5 S10]
        obtain ⟨o16, H⟩ := H
        refine wp_steps (i' := 41) (ls' := [some (.ref 100), some (.int i1), some (.int i2), some (.int i3)]) (st' := [.int (mx_i h7 (vd + 6) i1.toNatClampNeg)]) (h' := h7) (P := ((mxT vd).1 = 9 ∧ mxG h7) ∧ ((mxT (vd + 1)).1 = 5 ∧ mxG h7) ∧ (((mxT (vd + 6)).1 = 50 ∧ mxG h7) ∧ vp_in i1 (mxT (vd + 6)).2) ∧ True) 4 rfl rfl ⟨⟨(congrArg Prod.fst (sV_0 (mxS_vd S))), G9⟩, ⟨(congrArg Prod.fst (sV_1 (mxS_vd S))), G9⟩, (cA (sV_6 (mxS_vd S)) G9 o16), trivial⟩ ?_
        exact wp_end (o := .inl (some (.int (mx_i h7 (vd + 6) i1.toNatClampNeg)))) (h' := h7) (P := True) rfl rfl trivial H
      have H := H.2 c15
      show mx_wp (d + 6) 172 42 [some (.ref 100), some (.int i1), some (.int i2), some (.int i3)] [] h7 Q
      refine wp_steps (i' := 44) (ls' := [some (.ref 100), some (.int i1), some (.int i2), some (.int i3)]) (st' := [.ref (mx_r h7 100 5)]) (h' := h7) (P := ((mxT 100).1 = 10 ∧ mxG h7) ∧ True) 2 rfl rfl ⟨⟨(congrArg Prod.fst sT_100), G9⟩, trivial⟩ ?_
      rw [mxS_5 S10]
      refine wp_steps (i' := 46) (ls' := [some (.ref 100), some (.int i1), some (.int i2), some (.int i3)]) (st' := [.int i1, .ref (vd + 7)]) (h' := h7) (P := ((mxT vd).1 = 9 ∧ mxG h7) ∧ True) 2 rfl rfl ⟨⟨(congrArg Prod.fst (sV_0 (mxS_vd S))), G9⟩, trivial⟩ ?_
      obtain ⟨o17, H⟩ := H
      refine wp_call (b := false) (y' := 77) (as := [.ref (vd + 7), .int i1]) (rest := []) (P := ((mxT (vd + 7)).1 = mxRc 77 ∧ mxG h7)) rfl (by with_unfolding_all rfl) ⟨(congrArg Prod.fst (sV_7 (mxS_vd S))), G9⟩ (Nat.le_of_ble_eq_true rfl) (sp_77 G9 (mxS_vd S) o17 ?_)
      show mx_wp (d + 6) 172 47 [some (.ref 100), some (.int i1), some (.int i2), some (.int i3)] [.int (V_77 h7 vd i1)] h7 Q
      exact wp_end (o := .inl (some (.int (V_77 h7 vd i1)))) (h' := h7) (P := True) rfl rfl trivial H
    · have c4 := Int32.not_le.mp c4
      have H := H.1 c4
      exact wp_end (o := .inr 3) (h' := mx_ex h) (P := mx_c h = 292 ∧ (([] : List Value).map mx_cat).sum ≤ 8) rfl rfl ⟨G.1, Nat.le_of_ble_eq_true rfl⟩ H
/-! 173: StoneBacks.trial(IZ)I -/
set_option maxRecDepth 8000 in
theorem tr_173_0 {d : Nat} {h : mxH} {Q : mxO → mxH → Prop} {i1 : Int32} {i2 : Int32} {vn vd vr vq : Nat} (G : mxG h) (S : mxS h vn vd vr vq) (H : (((isI i1 101) → (okG h vn vr i1 ∧ (∀ (h4 : mxH), p176 vn vd vr i1 (mx_i h vn 7) h h4 → (((i2 = 0 → (cB (mx_i h4 (vd + 1) 0) 6 ∧ True)) ∧ (¬ i2 = 0 → True)) ∧ (∀ (v8 : Int32), v8 = ((if i2 = 0 then (V_52 h4 vd) else (mx_i h4 (vd + 1) 6)) : Int32) → Q (.inl (some (.int v8))) h4))))) ∧ (¬ (isI i1 101) → Q (.inr 0) (mx_ex h)))) : mx_wp (d + 6) 173 0 (mx_fr 173 [.ref 100, .int i1, .int i2]) [] h Q := by
  show mx_wp (d + 6) 173 0 [some (.ref 100), some (.int i1), some (.int i2)] [] h Q
  refine wp_steps (i' := 2) (ls' := [some (.ref 100), some (.int i1), some (.int i2)]) (st' := [.int i1, .ref 100]) (h' := h) (P := True) 2 rfl rfl trivial ?_
  refine wp_call (b := false) (y' := 188) (as := [.ref 100, .int i1]) (rest := []) (P := ((mxT 100).1 = mxRc 188 ∧ mxG h)) rfl (by with_unfolding_all rfl) ⟨(congrArg Prod.fst sT_100), G⟩ (Nat.le_of_ble_eq_true rfl) (sp_188 G S (fun c1 => ?_) (fun c1 => H.2 c1))
  show mx_wp (d + 6) 173 3 [some (.ref 100), some (.int i1), some (.int i2)] [] h Q
  have H := H.1 c1
  refine wp_steps (i' := 7) (ls' := [some (.ref 100), some (.int i1), some (.int i2)]) (st' := [.ref (mx_r h 100 4), .int i1, .ref 100]) (h' := h) (P := ((mxT 100).1 = 10 ∧ mxG h) ∧ True) 4 rfl rfl ⟨⟨(congrArg Prod.fst sT_100), G⟩, trivial⟩ ?_
  rw [mxS_4 S]
  refine wp_steps (i' := 8) (ls' := [some (.ref 100), some (.int i1), some (.int i2)]) (st' := [.int (mx_i h vn 7), .int i1, .ref 100]) (h' := h) (P := ((mxT vn).1 = 9 ∧ mxG h) ∧ True) 1 rfl rfl ⟨⟨(congrArg Prod.fst (sV_0 (mxS_vn S))), G⟩, trivial⟩ ?_
  obtain ⟨o2, H⟩ := H
  refine wp_call (b := false) (y' := 176) (as := [.ref 100, .int i1, .int (mx_i h vn 7)]) (rest := []) (P := ((mxT 100).1 = mxRc 176 ∧ mxG h)) rfl (by with_unfolding_all rfl) ⟨(congrArg Prod.fst sT_100), G⟩ (Nat.le_of_ble_eq_true rfl) (sp_176 G S o2 ?_)
  intro h4 p5
  show mx_wp (d + 6) 173 9 [some (.ref 100), some (.int i1), some (.int i2)] [] h4 Q
  have H := H h4 p5
  have G6 : mxG h4 := mxU_G p5.1 G
  have S7 := mxS_of (mxU_r p5.1) S
  refine wp_steps (i' := 10) (ls' := [some (.ref 100), some (.int i1), some (.int i2)]) (st' := [.int i2]) (h' := h4) (P := True) 1 rfl rfl trivial ?_
  have J : ∀ (v8 : Int32) (ev8 : v8 = ((if i2 = 0 then (V_52 h4 vd) else (mx_i h4 (vd + 1) 6)) : Int32)), mx_wp (d + 6) 173 20 [some (.ref 100), some (.int i1), some (.int i2)] [.int v8] h4 Q := by
    intro v8 ev8
    have H := H.2 v8 ev8
    exact wp_end (o := .inl (some (.int v8))) (h' := h4) (P := True) rfl rfl trivial H
  have H := H.1
  refine wp_br (P := True) (c := i2 = 0) (t := 16) (st' := []) rfl rfl trivial (fun c9 => ?_) (fun c9 => ?_)
  · skip
    have H := H.1 c9
    refine wp_steps (i' := 18) (ls' := [some (.ref 100), some (.int i1), some (.int i2)]) (st' := [.ref (mx_r h4 100 5)]) (h' := h4) (P := ((mxT 100).1 = 10 ∧ mxG h4) ∧ True) 2 rfl rfl ⟨⟨(congrArg Prod.fst sT_100), G6⟩, trivial⟩ ?_
    rw [mxS_5 S7]
    refine wp_steps (i' := 19) (ls' := [some (.ref 100), some (.int i1), some (.int i2)]) (st' := [.ref (vd + 1)]) (h' := h4) (P := ((mxT vd).1 = 9 ∧ mxG h4) ∧ True) 1 rfl rfl ⟨⟨(congrArg Prod.fst (sV_0 (mxS_vd S))), G6⟩, trivial⟩ ?_
    obtain ⟨o10, H⟩ := H
    refine wp_call (b := false) (y' := 52) (as := [.ref (vd + 1)]) (rest := []) (P := ((mxT (vd + 1)).1 = mxRc 52 ∧ mxG h4)) rfl (by with_unfolding_all rfl) ⟨(congrArg Prod.fst (sV_1 (mxS_vd S))), G6⟩ (Nat.le_of_ble_eq_true rfl) (sp_52 G6 (mxS_vd S) o10 ?_)
    show mx_wp (d + 6) 173 20 [some (.ref 100), some (.int i1), some (.int i2)] [.int (V_52 h4 vd)] h4 Q
    exact J _ (by rw [if_pos c9])
  · skip
    refine wp_steps (i' := 13) (ls' := [some (.ref 100), some (.int i1), some (.int i2)]) (st' := [.ref (mx_r h4 100 5)]) (h' := h4) (P := ((mxT 100).1 = 10 ∧ mxG h4) ∧ True) 2 rfl rfl ⟨⟨(congrArg Prod.fst sT_100), G6⟩, trivial⟩ ?_
    rw [mxS_5 S7]
    refine wp_steps (i' := 15) (ls' := [some (.ref 100), some (.int i1), some (.int i2)]) (st' := [.int (mx_i h4 (vd + 1) 6)]) (h' := h4) (P := ((mxT vd).1 = 9 ∧ mxG h4) ∧ ((mxT (vd + 1)).1 = 5 ∧ mxG h4) ∧ True) 2 rfl rfl ⟨⟨(congrArg Prod.fst (sV_0 (mxS_vd S))), G6⟩, ⟨(congrArg Prod.fst (sV_1 (mxS_vd S))), G6⟩, trivial⟩ ?_
    refine wp_J (j := 20) (st' := [.int (mx_i h4 (vd + 1) 6)]) rfl rfl ?_
    exact J _ (by rw [if_neg c9])
/-! 174: StoneBacks.span(IZ)I -/
def H_174_9 (d : Nat) (h : mxH) (i1 : Int32) (i2 : Int32) (i3 : Int32) (i4 : Int32) (i5 : Int32) (Q : mxO → mxH → Prop) : Prop := ∀ (w6 : Option Value), mx_wp d 174 9 [some (.ref 100), some (.int i1), some (.int i2), some (.int i3), some (.int i4), some (.int i5), w6] [] h Q
set_option maxRecDepth 8000 in
theorem tr_174_0 {d : Nat} {h : mxH} {Q : mxO → mxH → Prop} {i1 : Int32} {i2 : Int32} {vn vd vr vq : Nat} (G : mxG h) (S : mxS h vn vd vr vq) (H : (((isI i1 101) → H_174_9 (d + 6) h i1 i2 6 0 1 Q) ∧ (¬ (isI i1 101) → Q (.inr 0) (mx_ex h)))) : mx_wp (d + 6) 174 0 (mx_fr 174 [.ref 100, .int i1, .int i2]) [] h Q := by
  show mx_wp (d + 6) 174 0 [some (.ref 100), some (.int i1), some (.int i2), none, none, none, none] [] h Q
  refine wp_steps (i' := 2) (ls' := [some (.ref 100), some (.int i1), some (.int i2), none, none, none, none]) (st' := [.int i1, .ref 100]) (h' := h) (P := True) 2 rfl rfl trivial ?_
  refine wp_call (b := false) (y' := 188) (as := [.ref 100, .int i1]) (rest := []) (P := ((mxT 100).1 = mxRc 188 ∧ mxG h)) rfl (by with_unfolding_all rfl) ⟨(congrArg Prod.fst sT_100), G⟩ (Nat.le_of_ble_eq_true rfl) (sp_188 G S (fun c1 => ?_) (fun c1 => H.2 c1))
  show mx_wp (d + 6) 174 3 [some (.ref 100), some (.int i1), some (.int i2), none, none, none, none] [] h Q
  have H := H.1 c1
  refine wp_steps (i' := 9) (ls' := [some (.ref 100), some (.int i1), some (.int i2), some (.int 6), some (.int 0), some (.int 1), none]) (st' := []) (h' := h) (P := True) 6 rfl rfl trivial ?_
  exact H _
set_option maxRecDepth 8000 in
theorem tr_174_9 {d : Nat} {h : mxH} {Q : mxO → mxH → Prop} {vn vd vr vq : Nat} {i1 : Int32} {i2 : Int32} {i3 : Int32} {i4 : Int32} {i5 : Int32} (G : mxG h) (S : mxS h vn vd vr vq) (H : ((6 < i5 → (∀ (v2 : Int32), v2 = ((if i2 = 0 then i3 else i4) : Int32) → Q (.inl (some (.int v2))) h)) ∧ (¬ 6 < i5 → (okG h vn vr i1 ∧ (∀ (h6 : mxH), p176 vn vd vr i1 i5 h h6 → H_174_9 (d + 6) h6 i1 i2 (if (V_306 h6 (mx_i h6 (vd + 1) 6)) < i3 then (V_306 h6 (mx_i h6 (vd + 1) 6)) else i3) (if i4 < (V_306 h6 (mx_i h6 (vd + 1) 6)) then (V_306 h6 (mx_i h6 (vd + 1) 6)) else i4) (i5 + 1) Q))))) : H_174_9 (d + 6) h i1 i2 i3 i4 i5 Q := by
  intro w6
  show mx_wp (d + 6) 174 9 [some (.ref 100), some (.int i1), some (.int i2), some (.int i3), some (.int i4), some (.int i5), w6] [] h Q
  refine wp_steps (i' := 11) (ls' := [some (.ref 100), some (.int i1), some (.int i2), some (.int i3), some (.int i4), some (.int i5), w6]) (st' := [.int 6, .int i5]) (h' := h) (P := True) 2 rfl rfl trivial ?_
  refine wp_br (P := True) (c := 6 < i5) (t := 32) (st' := []) rfl rfl trivial (fun c1 => ?_) (fun c1 => ?_)
  · skip
    have H := H.1 c1
    refine wp_steps (i' := 33) (ls' := [some (.ref 100), some (.int i1), some (.int i2), some (.int i3), some (.int i4), some (.int i5), w6]) (st' := [.int i2]) (h' := h) (P := True) 1 rfl rfl trivial ?_
    have J : ∀ (v2 : Int32) (ev2 : v2 = ((if i2 = 0 then i3 else i4) : Int32)), mx_wp (d + 6) 174 37 [some (.ref 100), some (.int i1), some (.int i2), some (.int i3), some (.int i4), some (.int i5), w6] [.int v2] h Q := by
      intro v2 ev2
      have H := H v2 ev2
      exact wp_end (o := .inl (some (.int v2))) (h' := h) (P := True) rfl rfl trivial H
    refine wp_br (P := True) (c := i2 = 0) (t := 36) (st' := []) rfl rfl trivial (fun c3 => ?_) (fun c3 => ?_)
    · skip
      refine wp_steps (i' := 37) (ls' := [some (.ref 100), some (.int i1), some (.int i2), some (.int i3), some (.int i4), some (.int i5), w6]) (st' := [.int i3]) (h' := h) (P := True) 1 rfl rfl trivial ?_
      exact J _ (by rw [if_pos c3])
    · skip
      refine wp_steps (i' := 35) (ls' := [some (.ref 100), some (.int i1), some (.int i2), some (.int i3), some (.int i4), some (.int i5), w6]) (st' := [.int i4]) (h' := h) (P := True) 1 rfl rfl trivial ?_
      refine wp_J (j := 37) (st' := [.int i4]) rfl rfl ?_
      exact J _ (by rw [if_neg c3])
  · skip
    have H := H.2 c1
    refine wp_steps (i' := 15) (ls' := [some (.ref 100), some (.int i1), some (.int i2), some (.int i3), some (.int i4), some (.int i5), w6]) (st' := [.int i5, .int i1, .ref 100]) (h' := h) (P := True) 3 rfl rfl trivial ?_
    obtain ⟨o4, H⟩ := H
    refine wp_call (b := false) (y' := 176) (as := [.ref 100, .int i1, .int i5]) (rest := []) (P := ((mxT 100).1 = mxRc 176 ∧ mxG h)) rfl (by with_unfolding_all rfl) ⟨(congrArg Prod.fst sT_100), G⟩ (Nat.le_of_ble_eq_true rfl) (sp_176 G S o4 ?_)
    intro h6 p7
    show mx_wp (d + 6) 174 16 [some (.ref 100), some (.int i1), some (.int i2), some (.int i3), some (.int i4), some (.int i5), w6] [] h6 Q
    have H := H h6 p7
    have G8 : mxG h6 := mxU_G p7.1 G
    have S9 := mxS_of (mxU_r p7.1) S
    refine wp_steps (i' := 18) (ls' := [some (.ref 100), some (.int i1), some (.int i2), some (.int i3), some (.int i4), some (.int i5), w6]) (st' := [.ref (mx_r h6 100 5)]) (h' := h6) (P := ((mxT 100).1 = 10 ∧ mxG h6) ∧ True) 2 rfl rfl ⟨⟨(congrArg Prod.fst sT_100), G8⟩, trivial⟩ ?_
    rw [mxS_5 S9]
    refine wp_steps (i' := 20) (ls' := [some (.ref 100), some (.int i1), some (.int i2), some (.int i3), some (.int i4), some (.int i5), w6]) (st' := [.int (mx_i h6 (vd + 1) 6)]) (h' := h6) (P := ((mxT vd).1 = 9 ∧ mxG h6) ∧ ((mxT (vd + 1)).1 = 5 ∧ mxG h6) ∧ True) 2 rfl rfl ⟨⟨(congrArg Prod.fst (sV_0 (mxS_vd S))), G8⟩, ⟨(congrArg Prod.fst (sV_1 (mxS_vd S))), G8⟩, trivial⟩ ?_
    refine wp_call (b := false) (y' := 306) (as := [.int (mx_i h6 (vd + 1) 6)]) (rest := []) (P := True) rfl (by with_unfolding_all rfl) trivial (Nat.le_of_ble_eq_true rfl) (sp_306 G8 ?_)
    show mx_wp (d + 6) 174 21 [some (.ref 100), some (.int i1), some (.int i2), some (.int i3), some (.int i4), some (.int i5), w6] [.int (V_306 h6 (mx_i h6 (vd + 1) 6))] h6 Q
    refine wp_steps (i' := 31) (ls' := [some (.ref 100), some (.int i1), some (.int i2), some (.int (if (V_306 h6 (mx_i h6 (vd + 1) 6)) < i3 then (V_306 h6 (mx_i h6 (vd + 1) 6)) else i3)), some (.int (if i4 < (V_306 h6 (mx_i h6 (vd + 1) 6)) then (V_306 h6 (mx_i h6 (vd + 1) 6)) else i4)), some (.int (i5 + 1)), some (.int (V_306 h6 (mx_i h6 (vd + 1) 6)))]) (st' := []) (h' := h6) (P := ((([] : List Value).map mx_cat).sum ≤ 8) ∧ ((([] : List Value).map mx_cat).sum ≤ 8) ∧ True) 10 rfl rfl ⟨(Nat.le_of_ble_eq_true rfl), (Nat.le_of_ble_eq_true rfl), trivial⟩ ?_
    refine wp_J (j := 9) (st' := []) rfl rfl ?_
    exact H _
