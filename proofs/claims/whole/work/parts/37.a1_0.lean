/-! 138: StoneBacks.person(II)I -/
set_option maxRecDepth 8000 in
theorem tr_138_0 {d : Nat} {h : mxH} {Q : mxO → mxH → Prop} {i1 : Int32} {i2 : Int32} {vn vd vr vq : Nat} (G : mxG h) (S : mxS h vn vd vr vq) (H : (((isI i1 (mx_i h (vn + 1) 0)) → ((i2 = 0 → (vp_in i1 6 ∧ Q (.inl (some (.int (mx_i h (vn + 2) i1.toNatClampNeg)))) h)) ∧ (¬ i2 = 0 → ((i2 = 1 → (vp_in i1 6 ∧ Q (.inl (some (.int (mx_i h (vn + 3) i1.toNatClampNeg)))) h)) ∧ (¬ i2 = 1 → ((i2 = 2 → (vp_in i1 6 ∧ Q (.inl (some (.int (mx_i h (vn + 4) i1.toNatClampNeg)))) h)) ∧ (¬ i2 = 2 → ((i2 = 3 → (vp_in i1 6 ∧ Q (.inl (some (.int (mx_i h (vn + 5) i1.toNatClampNeg)))) h)) ∧ (¬ i2 = 3 → ((i2 = 4 → (vp_in i1 6 ∧ Q (.inl (some (.int (mx_i h (vn + 6) i1.toNatClampNeg)))) h)) ∧ (¬ i2 = 4 → ((i2 = 5 → (∀ (v13 : Int32), v13 = ((if (V_49 h vn i1) = 0 then 0 else 1) : Int32) → Q (.inl (some (.int v13))) h)) ∧ (¬ i2 = 5 → ((i2 = 6 → (cB (mx_i h (vn + 7) 0) 10 ∧ Q (.inl (some (.int (V_77 h vn i1)))) h)) ∧ (¬ i2 = 6 → ((i2 = 7 → (cB (mx_i h (vn + 7) 0) 10 ∧ Q (.inl (some (.int (V_71 h vn i1)))) h)) ∧ (¬ i2 = 7 → ((i2 = 8 → (cB (mx_i h (vn + 7) 0) 10 ∧ Q (.inl (some (.int (V_78 h vn i1)))) h)) ∧ (¬ i2 = 8 → ((i2 = 9 → (cB (mx_i h (vn + 7) 0) 10 ∧ Q (.inl (some (.int (V_79 h vn i1)))) h)) ∧ (¬ i2 = 9 → ((i2 = 10 → (cB (mx_i h (vn + 7) 0) 10 ∧ Q (.inl (some (.int (V_72 h vn i1)))) h)) ∧ (¬ i2 = 10 → ((i2 = 11 → ((((V_49 h vn i1) = 0 → (vp_in i1 6 ∧ (((mx_i h (vn + 6) i1.toNatClampNeg) = 99 → True) ∧ (¬ (mx_i h (vn + 6) i1.toNatClampNeg) = 99 → (cB (mx_i h (vn + 7) 0) 10 ∧ True))))) ∧ (¬ (V_49 h vn i1) = 0 → True)) ∧ (∀ (v27 : Int32), v27 = ((if (V_106 h vn i1) = 0 then 0 else 1) : Int32) → Q (.inl (some (.int v27))) h))) ∧ (¬ i2 = 11 → Q (.inr 3) (mx_ex h)))))))))))))))))))))))))) ∧ (¬ (isI i1 (mx_i h (vn + 1) 0)) → Q (.inr 2) (mx_ex h)))) : mx_wp (d + 2) 138 0 (mx_fr 138 [.ref 100, .int i1, .int i2]) [] h Q := by
  show mx_wp (d + 2) 138 0 [some (.ref 100), some (.int i1), some (.int i2)] [] h Q
  refine wp_steps (i' := 2) (ls' := [some (.ref 100), some (.int i1), some (.int i2)]) (st' := [.int i1, .ref 100]) (h' := h) (P := True) 2 rfl rfl trivial ?_
  refine wp_call (b := false) (y' := 184) (as := [.ref 100, .int i1]) (rest := []) (P := ((mxT 100).1 = mxRc 184 ∧ mxG h)) rfl (by with_unfolding_all rfl) ⟨(congrArg Prod.fst sT_100), G⟩ (Nat.le_of_ble_eq_true rfl) (sp_184 G S (fun c1 => ?_) (fun c1 => H.2 c1))
  show mx_wp (d + 2) 138 3 [some (.ref 100), some (.int i1), some (.int i2)] [] h Q
  have H := H.1 c1
  refine wp_steps (i' := 4) (ls' := [some (.ref 100), some (.int i1), some (.int i2)]) (st' := [.int i2]) (h' := h) (P := True) 1 rfl rfl trivial ?_
  refine wp_J (j := mx_sw 0 [5, 12, 19, 26, 33, 40, 50, 56, 62, 68, 74, 80] 89 i2) (st' := []) rfl rfl ?_
  refine wp_sw (fun (c2 : i2 = 0) => ?_) (fun (c2 : ¬ i2 = 0) => ?_)
  · have H := H.1 c2
    refine wp_steps (i' := 7) (ls' := [some (.ref 100), some (.int i1), some (.int i2)]) (st' := [.ref (mx_r h 100 4)]) (h' := h) (P := ((mxT 100).1 = 10 ∧ mxG h) ∧ True) 2 rfl rfl ⟨⟨(congrArg Prod.fst sT_100), G⟩, trivial⟩ ?_
    rw [mxS_4 S]
    obtain ⟨o3, H⟩ := H
    refine wp_steps (i' := 11) (ls' := [some (.ref 100), some (.int i1), some (.int i2)]) (st' := [.int (mx_i h (vn + 2) i1.toNatClampNeg)]) (h' := h) (P := ((mxT vn).1 = 9 ∧ mxG h) ∧ ((mxT (vn + 1)).1 = 5 ∧ mxG h) ∧ (((mxT (vn + 2)).1 = 50 ∧ mxG h) ∧ vp_in i1 (mxT (vn + 2)).2) ∧ True) 4 rfl rfl ⟨⟨(congrArg Prod.fst (sV_0 (mxS_vn S))), G⟩, ⟨(congrArg Prod.fst (sV_1 (mxS_vn S))), G⟩, (cA (sV_2 (mxS_vn S)) G o3), trivial⟩ ?_
    exact wp_end (o := .inl (some (.int (mx_i h (vn + 2) i1.toNatClampNeg)))) (h' := h) (P := True) rfl rfl trivial H
  have H := H.2 c2
  refine wp_sw (fun (c4 : i2 = 1) => ?_) (fun (c4 : ¬ i2 = 1) => ?_)
  · have H := H.1 c4
    refine wp_steps (i' := 14) (ls' := [some (.ref 100), some (.int i1), some (.int i2)]) (st' := [.ref (mx_r h 100 4)]) (h' := h) (P := ((mxT 100).1 = 10 ∧ mxG h) ∧ True) 2 rfl rfl ⟨⟨(congrArg Prod.fst sT_100), G⟩, trivial⟩ ?_
    rw [mxS_4 S]
    obtain ⟨o5, H⟩ := H
    refine wp_steps (i' := 18) (ls' := [some (.ref 100), some (.int i1), some (.int i2)]) (st' := [.int (mx_i h (vn + 3) i1.toNatClampNeg)]) (h' := h) (P := ((mxT vn).1 = 9 ∧ mxG h) ∧ ((mxT (vn + 1)).1 = 5 ∧ mxG h) ∧ (((mxT (vn + 3)).1 = 50 ∧ mxG h) ∧ vp_in i1 (mxT (vn + 3)).2) ∧ True) 4 rfl rfl ⟨⟨(congrArg Prod.fst (sV_0 (mxS_vn S))), G⟩, ⟨(congrArg Prod.fst (sV_1 (mxS_vn S))), G⟩, (cA (sV_3 (mxS_vn S)) G o5), trivial⟩ ?_
    exact wp_end (o := .inl (some (.int (mx_i h (vn + 3) i1.toNatClampNeg)))) (h' := h) (P := True) rfl rfl trivial H
  have H := H.2 c4
  refine wp_sw (fun (c6 : i2 = 2) => ?_) (fun (c6 : ¬ i2 = 2) => ?_)
  · have H := H.1 c6
    refine wp_steps (i' := 21) (ls' := [some (.ref 100), some (.int i1), some (.int i2)]) (st' := [.ref (mx_r h 100 4)]) (h' := h) (P := ((mxT 100).1 = 10 ∧ mxG h) ∧ True) 2 rfl rfl ⟨⟨(congrArg Prod.fst sT_100), G⟩, trivial⟩ ?_
    rw [mxS_4 S]
    obtain ⟨o7, H⟩ := H
    refine wp_steps (i' := 25) (ls' := [some (.ref 100), some (.int i1), some (.int i2)]) (st' := [.int (mx_i h (vn + 4) i1.toNatClampNeg)]) (h' := h) (P := ((mxT vn).1 = 9 ∧ mxG h) ∧ ((mxT (vn + 1)).1 = 5 ∧ mxG h) ∧ (((mxT (vn + 4)).1 = 50 ∧ mxG h) ∧ vp_in i1 (mxT (vn + 4)).2) ∧ True) 4 rfl rfl ⟨⟨(congrArg Prod.fst (sV_0 (mxS_vn S))), G⟩, ⟨(congrArg Prod.fst (sV_1 (mxS_vn S))), G⟩, (cA (sV_4 (mxS_vn S)) G o7), trivial⟩ ?_
    exact wp_end (o := .inl (some (.int (mx_i h (vn + 4) i1.toNatClampNeg)))) (h' := h) (P := True) rfl rfl trivial H
  have H := H.2 c6
  refine wp_sw (fun (c8 : i2 = 3) => ?_) (fun (c8 : ¬ i2 = 3) => ?_)
  · have H := H.1 c8
    refine wp_steps (i' := 28) (ls' := [some (.ref 100), some (.int i1), some (.int i2)]) (st' := [.ref (mx_r h 100 4)]) (h' := h) (P := ((mxT 100).1 = 10 ∧ mxG h) ∧ True) 2 rfl rfl ⟨⟨(congrArg Prod.fst sT_100), G⟩, trivial⟩ ?_
    rw [mxS_4 S]
    obtain ⟨o9, H⟩ := H
    refine wp_steps (i' := 32) (ls' := [some (.ref 100), some (.int i1), some (.int i2)]) (st' := [.int (mx_i h (vn + 5) i1.toNatClampNeg)]) (h' := h) (P := ((mxT vn).1 = 9 ∧ mxG h) ∧ ((mxT (vn + 1)).1 = 5 ∧ mxG h) ∧ (((mxT (vn + 5)).1 = 50 ∧ mxG h) ∧ vp_in i1 (mxT (vn + 5)).2) ∧ True) 4 rfl rfl ⟨⟨(congrArg Prod.fst (sV_0 (mxS_vn S))), G⟩, ⟨(congrArg Prod.fst (sV_1 (mxS_vn S))), G⟩, (cA (sV_5 (mxS_vn S)) G o9), trivial⟩ ?_
    exact wp_end (o := .inl (some (.int (mx_i h (vn + 5) i1.toNatClampNeg)))) (h' := h) (P := True) rfl rfl trivial H
  have H := H.2 c8
  refine wp_sw (fun (c10 : i2 = 4) => ?_) (fun (c10 : ¬ i2 = 4) => ?_)
  · have H := H.1 c10
    refine wp_steps (i' := 35) (ls' := [some (.ref 100), some (.int i1), some (.int i2)]) (st' := [.ref (mx_r h 100 4)]) (h' := h) (P := ((mxT 100).1 = 10 ∧ mxG h) ∧ True) 2 rfl rfl ⟨⟨(congrArg Prod.fst sT_100), G⟩, trivial⟩ ?_
    rw [mxS_4 S]
    obtain ⟨o11, H⟩ := H
    refine wp_steps (i' := 39) (ls' := [some (.ref 100), some (.int i1), some (.int i2)]) (st' := [.int (mx_i h (vn + 6) i1.toNatClampNeg)]) (h' := h) (P := ((mxT vn).1 = 9 ∧ mxG h) ∧ ((mxT (vn + 1)).1 = 5 ∧ mxG h) ∧ (((mxT (vn + 6)).1 = 50 ∧ mxG h) ∧ vp_in i1 (mxT (vn + 6)).2) ∧ True) 4 rfl rfl ⟨⟨(congrArg Prod.fst (sV_0 (mxS_vn S))), G⟩, ⟨(congrArg Prod.fst (sV_1 (mxS_vn S))), G⟩, (cA (sV_6 (mxS_vn S)) G o11), trivial⟩ ?_
    exact wp_end (o := .inl (some (.int (mx_i h (vn + 6) i1.toNatClampNeg)))) (h' := h) (P := True) rfl rfl trivial H
  have H := H.2 c10
  refine wp_sw (fun (c12 : i2 = 5) => ?_) (fun (c12 : ¬ i2 = 5) => ?_)
  · have H := H.1 c12
    refine wp_steps (i' := 42) (ls' := [some (.ref 100), some (.int i1), some (.int i2)]) (st' := [.ref (mx_r h 100 4)]) (h' := h) (P := ((mxT 100).1 = 10 ∧ mxG h) ∧ True) 2 rfl rfl ⟨⟨(congrArg Prod.fst sT_100), G⟩, trivial⟩ ?_
    rw [mxS_4 S]
    refine wp_steps (i' := 44) (ls' := [some (.ref 100), some (.int i1), some (.int i2)]) (st' := [.int i1, .ref (vn + 1)]) (h' := h) (P := ((mxT vn).1 = 9 ∧ mxG h) ∧ True) 2 rfl rfl ⟨⟨(congrArg Prod.fst (sV_0 (mxS_vn S))), G⟩, trivial⟩ ?_
    refine wp_call (b := false) (y' := 49) (as := [.ref (vn + 1), .int i1]) (rest := []) (P := ((mxT (vn + 1)).1 = mxRc 49 ∧ mxG h)) rfl (by with_unfolding_all rfl) ⟨(congrArg Prod.fst (sV_1 (mxS_vn S))), G⟩ (Nat.le_of_ble_eq_true rfl) (sp_49 G (mxS_vn S) ?_)
    show mx_wp (d + 2) 138 45 [some (.ref 100), some (.int i1), some (.int i2)] [.int (V_49 h vn i1)] h Q
    have J : ∀ (v13 : Int32) (ev13 : v13 = ((if (V_49 h vn i1) = 0 then 0 else 1) : Int32)), mx_wp (d + 2) 138 49 [some (.ref 100), some (.int i1), some (.int i2)] [.int v13] h Q := by
      intro v13 ev13
      have H := H v13 ev13
      exact wp_end (o := .inl (some (.int v13))) (h' := h) (P := True) rfl rfl trivial H
    refine wp_br (P := True) (c := (V_49 h vn i1) = 0) (t := 48) (st' := []) rfl rfl trivial (fun c14 => ?_) (fun c14 => ?_)
    · skip
      refine wp_steps (i' := 49) (ls' := [some (.ref 100), some (.int i1), some (.int i2)]) (st' := [.int 0]) (h' := h) (P := True) 1 rfl rfl trivial ?_
      exact J _ (by rw [if_pos c14])
    · skip
      refine wp_steps (i' := 47) (ls' := [some (.ref 100), some (.int i1), some (.int i2)]) (st' := [.int 1]) (h' := h) (P := True) 1 rfl rfl trivial ?_
      refine wp_J (j := 49) (st' := [.int 1]) rfl rfl ?_
      exact J _ (by rw [if_neg c14])
  have H := H.2 c12
  refine wp_sw (fun (c15 : i2 = 6) => ?_) (fun (c15 : ¬ i2 = 6) => ?_)
  · have H := H.1 c15
    refine wp_steps (i' := 52) (ls' := [some (.ref 100), some (.int i1), some (.int i2)]) (st' := [.ref (mx_r h 100 4)]) (h' := h) (P := ((mxT 100).1 = 10 ∧ mxG h) ∧ True) 2 rfl rfl ⟨⟨(congrArg Prod.fst sT_100), G⟩, trivial⟩ ?_
    rw [mxS_4 S]
    refine wp_steps (i' := 54) (ls' := [some (.ref 100), some (.int i1), some (.int i2)]) (st' := [.int i1, .ref (vn + 7)]) (h' := h) (P := ((mxT vn).1 = 9 ∧ mxG h) ∧ True) 2 rfl rfl ⟨⟨(congrArg Prod.fst (sV_0 (mxS_vn S))), G⟩, trivial⟩ ?_
    obtain ⟨o16, H⟩ := H
    refine wp_call (b := false) (y' := 77) (as := [.ref (vn + 7), .int i1]) (rest := []) (P := ((mxT (vn + 7)).1 = mxRc 77 ∧ mxG h)) rfl (by with_unfolding_all rfl) ⟨(congrArg Prod.fst (sV_7 (mxS_vn S))), G⟩ (Nat.le_of_ble_eq_true rfl) (sp_77 G (mxS_vn S) o16 ?_)
    show mx_wp (d + 2) 138 55 [some (.ref 100), some (.int i1), some (.int i2)] [.int (V_77 h vn i1)] h Q
    exact wp_end (o := .inl (some (.int (V_77 h vn i1)))) (h' := h) (P := True) rfl rfl trivial H
  have H := H.2 c15
  refine wp_sw (fun (c17 : i2 = 7) => ?_) (fun (c17 : ¬ i2 = 7) => ?_)
  · have H := H.1 c17
    refine wp_steps (i' := 58) (ls' := [some (.ref 100), some (.int i1), some (.int i2)]) (st' := [.ref (mx_r h 100 4)]) (h' := h) (P := ((mxT 100).1 = 10 ∧ mxG h) ∧ True) 2 rfl rfl ⟨⟨(congrArg Prod.fst sT_100), G⟩, trivial⟩ ?_
    rw [mxS_4 S]
    refine wp_steps (i' := 60) (ls' := [some (.ref 100), some (.int i1), some (.int i2)]) (st' := [.int i1, .ref (vn + 7)]) (h' := h) (P := ((mxT vn).1 = 9 ∧ mxG h) ∧ True) 2 rfl rfl ⟨⟨(congrArg Prod.fst (sV_0 (mxS_vn S))), G⟩, trivial⟩ ?_
    obtain ⟨o18, H⟩ := H
    refine wp_call (b := false) (y' := 71) (as := [.ref (vn + 7), .int i1]) (rest := []) (P := ((mxT (vn + 7)).1 = mxRc 71 ∧ mxG h)) rfl (by with_unfolding_all rfl) ⟨(congrArg Prod.fst (sV_7 (mxS_vn S))), G⟩ (Nat.le_of_ble_eq_true rfl) (sp_71 G (mxS_vn S) o18 ?_)
    show mx_wp (d + 2) 138 61 [some (.ref 100), some (.int i1), some (.int i2)] [.int (V_71 h vn i1)] h Q
    exact wp_end (o := .inl (some (.int (V_71 h vn i1)))) (h' := h) (P := True) rfl rfl trivial H
  have H := H.2 c17
  refine wp_sw (fun (c19 : i2 = 8) => ?_) (fun (c19 : ¬ i2 = 8) => ?_)
  · have H := H.1 c19
    refine wp_steps (i' := 64) (ls' := [some (.ref 100), some (.int i1), some (.int i2)]) (st' := [.ref (mx_r h 100 4)]) (h' := h) (P := ((mxT 100).1 = 10 ∧ mxG h) ∧ True) 2 rfl rfl ⟨⟨(congrArg Prod.fst sT_100), G⟩, trivial⟩ ?_
    rw [mxS_4 S]
    refine wp_steps (i' := 66) (ls' := [some (.ref 100), some (.int i1), some (.int i2)]) (st' := [.int i1, .ref (vn + 7)]) (h' := h) (P := ((mxT vn).1 = 9 ∧ mxG h) ∧ True) 2 rfl rfl ⟨⟨(congrArg Prod.fst (sV_0 (mxS_vn S))), G⟩, trivial⟩ ?_
    obtain ⟨o20, H⟩ := H
    refine wp_call (b := false) (y' := 78) (as := [.ref (vn + 7), .int i1]) (rest := []) (P := ((mxT (vn + 7)).1 = mxRc 78 ∧ mxG h)) rfl (by with_unfolding_all rfl) ⟨(congrArg Prod.fst (sV_7 (mxS_vn S))), G⟩ (Nat.le_of_ble_eq_true rfl) (sp_78 G (mxS_vn S) o20 ?_)
    show mx_wp (d + 2) 138 67 [some (.ref 100), some (.int i1), some (.int i2)] [.int (V_78 h vn i1)] h Q
    exact wp_end (o := .inl (some (.int (V_78 h vn i1)))) (h' := h) (P := True) rfl rfl trivial H
  have H := H.2 c19
  refine wp_sw (fun (c21 : i2 = 9) => ?_) (fun (c21 : ¬ i2 = 9) => ?_)
  · have H := H.1 c21
    refine wp_steps (i' := 70) (ls' := [some (.ref 100), some (.int i1), some (.int i2)]) (st' := [.ref (mx_r h 100 4)]) (h' := h) (P := ((mxT 100).1 = 10 ∧ mxG h) ∧ True) 2 rfl rfl ⟨⟨(congrArg Prod.fst sT_100), G⟩, trivial⟩ ?_
    rw [mxS_4 S]
    refine wp_steps (i' := 72) (ls' := [some (.ref 100), some (.int i1), some (.int i2)]) (st' := [.int i1, .ref (vn + 7)]) (h' := h) (P := ((mxT vn).1 = 9 ∧ mxG h) ∧ True) 2 rfl rfl ⟨⟨(congrArg Prod.fst (sV_0 (mxS_vn S))), G⟩, trivial⟩ ?_
    obtain ⟨o22, H⟩ := H
    refine wp_call (b := false) (y' := 79) (as := [.ref (vn + 7), .int i1]) (rest := []) (P := ((mxT (vn + 7)).1 = mxRc 79 ∧ mxG h)) rfl (by with_unfolding_all rfl) ⟨(congrArg Prod.fst (sV_7 (mxS_vn S))), G⟩ (Nat.le_of_ble_eq_true rfl) (sp_79 G (mxS_vn S) o22 ?_)
    show mx_wp (d + 2) 138 73 [some (.ref 100), some (.int i1), some (.int i2)] [.int (V_79 h vn i1)] h Q
    exact wp_end (o := .inl (some (.int (V_79 h vn i1)))) (h' := h) (P := True) rfl rfl trivial H
  have H := H.2 c21
  refine wp_sw (fun (c23 : i2 = 10) => ?_) (fun (c23 : ¬ i2 = 10) => ?_)
  · have H := H.1 c23
    refine wp_steps (i' := 76) (ls' := [some (.ref 100), some (.int i1), some (.int i2)]) (st' := [.ref (mx_r h 100 4)]) (h' := h) (P := ((mxT 100).1 = 10 ∧ mxG h) ∧ True) 2 rfl rfl ⟨⟨(congrArg Prod.fst sT_100), G⟩, trivial⟩ ?_
    rw [mxS_4 S]
    refine wp_steps (i' := 78) (ls' := [some (.ref 100), some (.int i1), some (.int i2)]) (st' := [.int i1, .ref (vn + 7)]) (h' := h) (P := ((mxT vn).1 = 9 ∧ mxG h) ∧ True) 2 rfl rfl ⟨⟨(congrArg Prod.fst (sV_0 (mxS_vn S))), G⟩, trivial⟩ ?_
    obtain ⟨o24, H⟩ := H
    refine wp_call (b := false) (y' := 72) (as := [.ref (vn + 7), .int i1]) (rest := []) (P := ((mxT (vn + 7)).1 = mxRc 72 ∧ mxG h)) rfl (by with_unfolding_all rfl) ⟨(congrArg Prod.fst (sV_7 (mxS_vn S))), G⟩ (Nat.le_of_ble_eq_true rfl) (sp_72 G (mxS_vn S) o24 ?_)
    show mx_wp (d + 2) 138 79 [some (.ref 100), some (.int i1), some (.int i2)] [.int (V_72 h vn i1)] h Q
    exact wp_end (o := .inl (some (.int (V_72 h vn i1)))) (h' := h) (P := True) rfl rfl trivial H
  have H := H.2 c23
  refine wp_sw (fun (c25 : i2 = 11) => ?_) (fun (c25 : ¬ i2 = 11) => ?_)
  · have H := H.1 c25
    refine wp_steps (i' := 82) (ls' := [some (.ref 100), some (.int i1), some (.int i2)]) (st' := [.ref (mx_r h 100 4)]) (h' := h) (P := ((mxT 100).1 = 10 ∧ mxG h) ∧ True) 2 rfl rfl ⟨⟨(congrArg Prod.fst sT_100), G⟩, trivial⟩ ?_
    rw [mxS_4 S]
    refine wp_steps (i' := 83) (ls' := [some (.ref 100), some (.int i1), some (.int i2)]) (st' := [.int i1, .ref vn]) (h' := h) (P := True) 1 rfl rfl trivial ?_
    obtain ⟨o26, H⟩ := H
    refine wp_call (b := false) (y' := 106) (as := [.ref vn, .int i1]) (rest := []) (P := ((mxT vn).1 = mxRc 106 ∧ mxG h)) rfl (by with_unfolding_all rfl) ⟨(congrArg Prod.fst (sV_0 (mxS_vn S))), G⟩ (Nat.le_of_ble_eq_true rfl) (sp_106 G (mxS_vn S) o26 ?_)
    show mx_wp (d + 2) 138 84 [some (.ref 100), some (.int i1), some (.int i2)] [.int (V_106 h vn i1)] h Q
    have J : ∀ (v27 : Int32) (ev27 : v27 = ((if (V_106 h vn i1) = 0 then 0 else 1) : Int32)), mx_wp (d + 2) 138 88 [some (.ref 100), some (.int i1), some (.int i2)] [.int v27] h Q := by
      intro v27 ev27
      have H := H v27 ev27
      exact wp_end (o := .inl (some (.int v27))) (h' := h) (P := True) rfl rfl trivial H
    refine wp_br (P := True) (c := (V_106 h vn i1) = 0) (t := 87) (st' := []) rfl rfl trivial (fun c28 => ?_) (fun c28 => ?_)
    · skip
      refine wp_steps (i' := 88) (ls' := [some (.ref 100), some (.int i1), some (.int i2)]) (st' := [.int 0]) (h' := h) (P := True) 1 rfl rfl trivial ?_
      exact J _ (by rw [if_pos c28])
    · skip
      refine wp_steps (i' := 86) (ls' := [some (.ref 100), some (.int i1), some (.int i2)]) (st' := [.int 1]) (h' := h) (P := True) 1 rfl rfl trivial ?_
      refine wp_J (j := 88) (st' := [.int 1]) rfl rfl ?_
      exact J _ (by rw [if_neg c28])
  have H := H.2 c25
  show mx_wp (d + 2) 138 89 [some (.ref 100), some (.int i1), some (.int i2)] [] h Q
  exact wp_end (o := .inr 3) (h' := mx_ex h) (P := mx_c h = 292 ∧ (([] : List Value).map mx_cat).sum ≤ 8) rfl rfl ⟨G.1, Nat.le_of_ble_eq_true rfl⟩ H
/-! 140: StoneBacks.stone(II)I -/
set_option maxRecDepth 8000 in
theorem tr_140_0 {d : Nat} {h : mxH} {Q : mxO → mxH → Prop} {i1 : Int32} {i2 : Int32} {vn vd vr vq : Nat} (G : mxG h) (S : mxS h vn vd vr vq) (H : (((isI i1 (mx_i h (vn + 7) 0)) → ((i2 = 0 → (vp_in i1 10 ∧ Q (.inl (some (.int (mx_i h (vn + 8) i1.toNatClampNeg)))) h)) ∧ (¬ i2 = 0 → ((i2 = 1 → (vp_in i1 10 ∧ Q (.inl (some (.int (mx_i h (vn + 9) i1.toNatClampNeg)))) h)) ∧ (¬ i2 = 1 → ((i2 = 2 → (vp_in i1 10 ∧ Q (.inl (some (.int (mx_i h (vn + 10) i1.toNatClampNeg)))) h)) ∧ (¬ i2 = 2 → ((i2 = 3 → (vp_in i1 10 ∧ Q (.inl (some (.int (mx_i h (vn + 11) i1.toNatClampNeg)))) h)) ∧ (¬ i2 = 3 → ((i2 = 4 → (vp_in i1 10 ∧ Q (.inl (some (.int (V_70 h vn i1)))) h)) ∧ (¬ i2 = 4 → ((i2 = 5 → (vp_in i1 10 ∧ (((mx_i h (vn + 11) i1.toNatClampNeg) = 0 → (vp_in (mx_i h (vn + 12) i1.toNatClampNeg) 6 ∧ True)) ∧ (¬ (mx_i h (vn + 11) i1.toNatClampNeg) = 0 → True)) ∧ Q (.inl (some (.int (V_108 h vn i1)))) h)) ∧ (¬ i2 = 5 → Q (.inr 3) (mx_ex h)))))))))))))) ∧ (¬ (isI i1 (mx_i h (vn + 7) 0)) → Q (.inr 2) (mx_ex h)))) : mx_wp (d + 1) 140 0 (mx_fr 140 [.ref 100, .int i1, .int i2]) [] h Q := by
  show mx_wp (d + 1) 140 0 [some (.ref 100), some (.int i1), some (.int i2)] [] h Q
  refine wp_steps (i' := 2) (ls' := [some (.ref 100), some (.int i1), some (.int i2)]) (st' := [.int i1, .ref 100]) (h' := h) (P := True) 2 rfl rfl trivial ?_
  refine wp_call (b := false) (y' := 185) (as := [.ref 100, .int i1]) (rest := []) (P := ((mxT 100).1 = mxRc 185 ∧ mxG h)) rfl (by with_unfolding_all rfl) ⟨(congrArg Prod.fst sT_100), G⟩ (Nat.le_of_ble_eq_true rfl) (sp_185 G S (fun c1 => ?_) (fun c1 => H.2 c1))
  show mx_wp (d + 1) 140 3 [some (.ref 100), some (.int i1), some (.int i2)] [] h Q
  have H := H.1 c1
  refine wp_steps (i' := 4) (ls' := [some (.ref 100), some (.int i1), some (.int i2)]) (st' := [.int i2]) (h' := h) (P := True) 1 rfl rfl trivial ?_
  refine wp_J (j := mx_sw 0 [5, 12, 19, 26, 33, 39] 44 i2) (st' := []) rfl rfl ?_
  refine wp_sw (fun (c2 : i2 = 0) => ?_) (fun (c2 : ¬ i2 = 0) => ?_)
  · have H := H.1 c2
    refine wp_steps (i' := 7) (ls' := [some (.ref 100), some (.int i1), some (.int i2)]) (st' := [.ref (mx_r h 100 4)]) (h' := h) (P := ((mxT 100).1 = 10 ∧ mxG h) ∧ True) 2 rfl rfl ⟨⟨(congrArg Prod.fst sT_100), G⟩, trivial⟩ ?_
    rw [mxS_4 S]
    obtain ⟨o3, H⟩ := H
    refine wp_steps (i' := 11) (ls' := [some (.ref 100), some (.int i1), some (.int i2)]) (st' := [.int (mx_i h (vn + 8) i1.toNatClampNeg)]) (h' := h) (P := ((mxT vn).1 = 9 ∧ mxG h) ∧ ((mxT (vn + 7)).1 = 7 ∧ mxG h) ∧ (((mxT (vn + 8)).1 = 50 ∧ mxG h) ∧ vp_in i1 (mxT (vn + 8)).2) ∧ True) 4 rfl rfl ⟨⟨(congrArg Prod.fst (sV_0 (mxS_vn S))), G⟩, ⟨(congrArg Prod.fst (sV_7 (mxS_vn S))), G⟩, (cA (sV_8 (mxS_vn S)) G o3), trivial⟩ ?_
    exact wp_end (o := .inl (some (.int (mx_i h (vn + 8) i1.toNatClampNeg)))) (h' := h) (P := True) rfl rfl trivial H
  have H := H.2 c2
  refine wp_sw (fun (c4 : i2 = 1) => ?_) (fun (c4 : ¬ i2 = 1) => ?_)
  · have H := H.1 c4
    refine wp_steps (i' := 14) (ls' := [some (.ref 100), some (.int i1), some (.int i2)]) (st' := [.ref (mx_r h 100 4)]) (h' := h) (P := ((mxT 100).1 = 10 ∧ mxG h) ∧ True) 2 rfl rfl ⟨⟨(congrArg Prod.fst sT_100), G⟩, trivial⟩ ?_
    rw [mxS_4 S]
    obtain ⟨o5, H⟩ := H
    refine wp_steps (i' := 18) (ls' := [some (.ref 100), some (.int i1), some (.int i2)]) (st' := [.int (mx_i h (vn + 9) i1.toNatClampNeg)]) (h' := h) (P := ((mxT vn).1 = 9 ∧ mxG h) ∧ ((mxT (vn + 7)).1 = 7 ∧ mxG h) ∧ (((mxT (vn + 9)).1 = 50 ∧ mxG h) ∧ vp_in i1 (mxT (vn + 9)).2) ∧ True) 4 rfl rfl ⟨⟨(congrArg Prod.fst (sV_0 (mxS_vn S))), G⟩, ⟨(congrArg Prod.fst (sV_7 (mxS_vn S))), G⟩, (cA (sV_9 (mxS_vn S)) G o5), trivial⟩ ?_
    exact wp_end (o := .inl (some (.int (mx_i h (vn + 9) i1.toNatClampNeg)))) (h' := h) (P := True) rfl rfl trivial H
  have H := H.2 c4
  refine wp_sw (fun (c6 : i2 = 2) => ?_) (fun (c6 : ¬ i2 = 2) => ?_)
  · have H := H.1 c6
    refine wp_steps (i' := 21) (ls' := [some (.ref 100), some (.int i1), some (.int i2)]) (st' := [.ref (mx_r h 100 4)]) (h' := h) (P := ((mxT 100).1 = 10 ∧ mxG h) ∧ True) 2 rfl rfl ⟨⟨(congrArg Prod.fst sT_100), G⟩, trivial⟩ ?_
    rw [mxS_4 S]
    obtain ⟨o7, H⟩ := H
    refine wp_steps (i' := 25) (ls' := [some (.ref 100), some (.int i1), some (.int i2)]) (st' := [.int (mx_i h (vn + 10) i1.toNatClampNeg)]) (h' := h) (P := ((mxT vn).1 = 9 ∧ mxG h) ∧ ((mxT (vn + 7)).1 = 7 ∧ mxG h) ∧ (((mxT (vn + 10)).1 = 50 ∧ mxG h) ∧ vp_in i1 (mxT (vn + 10)).2) ∧ True) 4 rfl rfl ⟨⟨(congrArg Prod.fst (sV_0 (mxS_vn S))), G⟩, ⟨(congrArg Prod.fst (sV_7 (mxS_vn S))), G⟩, (cA (sV_10 (mxS_vn S)) G o7), trivial⟩ ?_
    exact wp_end (o := .inl (some (.int (mx_i h (vn + 10) i1.toNatClampNeg)))) (h' := h) (P := True) rfl rfl trivial H
  have H := H.2 c6
  refine wp_sw (fun (c8 : i2 = 3) => ?_) (fun (c8 : ¬ i2 = 3) => ?_)
  · have H := H.1 c8
    refine wp_steps (i' := 28) (ls' := [some (.ref 100), some (.int i1), some (.int i2)]) (st' := [.ref (mx_r h 100 4)]) (h' := h) (P := ((mxT 100).1 = 10 ∧ mxG h) ∧ True) 2 rfl rfl ⟨⟨(congrArg Prod.fst sT_100), G⟩, trivial⟩ ?_
    rw [mxS_4 S]
    obtain ⟨o9, H⟩ := H
    refine wp_steps (i' := 32) (ls' := [some (.ref 100), some (.int i1), some (.int i2)]) (st' := [.int (mx_i h (vn + 11) i1.toNatClampNeg)]) (h' := h) (P := ((mxT vn).1 = 9 ∧ mxG h) ∧ ((mxT (vn + 7)).1 = 7 ∧ mxG h) ∧ (((mxT (vn + 11)).1 = 50 ∧ mxG h) ∧ vp_in i1 (mxT (vn + 11)).2) ∧ True) 4 rfl rfl ⟨⟨(congrArg Prod.fst (sV_0 (mxS_vn S))), G⟩, ⟨(congrArg Prod.fst (sV_7 (mxS_vn S))), G⟩, (cA (sV_11 (mxS_vn S)) G o9), trivial⟩ ?_
    exact wp_end (o := .inl (some (.int (mx_i h (vn + 11) i1.toNatClampNeg)))) (h' := h) (P := True) rfl rfl trivial H
  have H := H.2 c8
  refine wp_sw (fun (c10 : i2 = 4) => ?_) (fun (c10 : ¬ i2 = 4) => ?_)
  · have H := H.1 c10
    refine wp_steps (i' := 35) (ls' := [some (.ref 100), some (.int i1), some (.int i2)]) (st' := [.ref (mx_r h 100 4)]) (h' := h) (P := ((mxT 100).1 = 10 ∧ mxG h) ∧ True) 2 rfl rfl ⟨⟨(congrArg Prod.fst sT_100), G⟩, trivial⟩ ?_
    rw [mxS_4 S]
    refine wp_steps (i' := 37) (ls' := [some (.ref 100), some (.int i1), some (.int i2)]) (st' := [.int i1, .ref (vn + 7)]) (h' := h) (P := ((mxT vn).1 = 9 ∧ mxG h) ∧ True) 2 rfl rfl ⟨⟨(congrArg Prod.fst (sV_0 (mxS_vn S))), G⟩, trivial⟩ ?_
    obtain ⟨o11, H⟩ := H
    refine wp_call (b := false) (y' := 70) (as := [.ref (vn + 7), .int i1]) (rest := []) (P := ((mxT (vn + 7)).1 = mxRc 70 ∧ mxG h)) rfl (by with_unfolding_all rfl) ⟨(congrArg Prod.fst (sV_7 (mxS_vn S))), G⟩ (Nat.le_of_ble_eq_true rfl) (sp_70 G (mxS_vn S) o11 ?_)
    show mx_wp (d + 1) 140 38 [some (.ref 100), some (.int i1), some (.int i2)] [.int (V_70 h vn i1)] h Q
    exact wp_end (o := .inl (some (.int (V_70 h vn i1)))) (h' := h) (P := True) rfl rfl trivial H
  have H := H.2 c10
  refine wp_sw (fun (c12 : i2 = 5) => ?_) (fun (c12 : ¬ i2 = 5) => ?_)
  · have H := H.1 c12
    refine wp_steps (i' := 41) (ls' := [some (.ref 100), some (.int i1), some (.int i2)]) (st' := [.ref (mx_r h 100 4)]) (h' := h) (P := ((mxT 100).1 = 10 ∧ mxG h) ∧ True) 2 rfl rfl ⟨⟨(congrArg Prod.fst sT_100), G⟩, trivial⟩ ?_
    rw [mxS_4 S]
    refine wp_steps (i' := 42) (ls' := [some (.ref 100), some (.int i1), some (.int i2)]) (st' := [.int i1, .ref vn]) (h' := h) (P := True) 1 rfl rfl trivial ?_
    obtain ⟨o13, o14, H⟩ := H
    refine wp_call (b := false) (y' := 108) (as := [.ref vn, .int i1]) (rest := []) (P := ((mxT vn).1 = mxRc 108 ∧ mxG h)) rfl (by with_unfolding_all rfl) ⟨(congrArg Prod.fst (sV_0 (mxS_vn S))), G⟩ (Nat.le_of_ble_eq_true rfl) (sp_108 G (mxS_vn S) o13 o14 ?_)
    show mx_wp (d + 1) 140 43 [some (.ref 100), some (.int i1), some (.int i2)] [.int (V_108 h vn i1)] h Q
    exact wp_end (o := .inl (some (.int (V_108 h vn i1)))) (h' := h) (P := True) rfl rfl trivial H
  have H := H.2 c12
  show mx_wp (d + 1) 140 44 [some (.ref 100), some (.int i1), some (.int i2)] [] h Q
  exact wp_end (o := .inr 3) (h' := mx_ex h) (P := mx_c h = 292 ∧ (([] : List Value).map mx_cat).sum ≤ 8) rfl rfl ⟨G.1, Nat.le_of_ble_eq_true rfl⟩ H
/-! 141: StoneBacks.place(II)I -/
set_option maxRecDepth 8000 in
theorem tr_141_0 {d : Nat} {h : mxH} {Q : mxO → mxH → Prop} {i1 : Int32} {i2 : Int32} {vn vd vr vq : Nat} (G : mxG h) (S : mxS h vn vd vr vq) (H : (((isI i1 12) → ((i2 = 0 → (vp_in i1 12 ∧ Q (.inl (some (.int (mx_i h (vn + 15) i1.toNatClampNeg)))) h)) ∧ (¬ i2 = 0 → ((i2 = 1 → (∀ (v5 : Int32), v5 = ((if (V_105 h vn i1) = 0 then 0 else 1) : Int32) → Q (.inl (some (.int v5))) h)) ∧ (¬ i2 = 1 → ((i2 = 2 → (cB (mx_i h (vn + 1) 0) 6 ∧ Q (.inl (some (.int (V_48 h vn i1)))) h)) ∧ (¬ i2 = 2 → ((i2 = 3 → (cB (mx_i h (vn + 7) 0) 10 ∧ Q (.inl (some (.int (V_74 h vn i1)))) h)) ∧ (¬ i2 = 3 → Q (.inr 3) (mx_ex h)))))))))) ∧ (¬ (isI i1 12) → Q (.inr 2) (mx_ex h)))) : mx_wp (d + 1) 141 0 (mx_fr 141 [.ref 100, .int i1, .int i2]) [] h Q := by
  show mx_wp (d + 1) 141 0 [some (.ref 100), some (.int i1), some (.int i2)] [] h Q
  refine wp_steps (i' := 2) (ls' := [some (.ref 100), some (.int i1), some (.int i2)]) (st' := [.int i1, .ref 100]) (h' := h) (P := True) 2 rfl rfl trivial ?_
  refine wp_call (b := false) (y' := 186) (as := [.ref 100, .int i1]) (rest := []) (P := ((mxT 100).1 = mxRc 186 ∧ mxG h)) rfl (by with_unfolding_all rfl) ⟨(congrArg Prod.fst sT_100), G⟩ (Nat.le_of_ble_eq_true rfl) (sp_186 G S (fun c1 => ?_) (fun c1 => H.2 c1))
  show mx_wp (d + 1) 141 3 [some (.ref 100), some (.int i1), some (.int i2)] [] h Q
  have H := H.1 c1
  refine wp_steps (i' := 4) (ls' := [some (.ref 100), some (.int i1), some (.int i2)]) (st' := [.int i2]) (h' := h) (P := True) 1 rfl rfl trivial ?_
  refine wp_J (j := mx_sw 0 [5, 11, 20, 26] 32 i2) (st' := []) rfl rfl ?_
  refine wp_sw (fun (c2 : i2 = 0) => ?_) (fun (c2 : ¬ i2 = 0) => ?_)
  · have H := H.1 c2
    refine wp_steps (i' := 7) (ls' := [some (.ref 100), some (.int i1), some (.int i2)]) (st' := [.ref (mx_r h 100 4)]) (h' := h) (P := ((mxT 100).1 = 10 ∧ mxG h) ∧ True) 2 rfl rfl ⟨⟨(congrArg Prod.fst sT_100), G⟩, trivial⟩ ?_
    rw [mxS_4 S]
    obtain ⟨o3, H⟩ := H
    refine wp_steps (i' := 10) (ls' := [some (.ref 100), some (.int i1), some (.int i2)]) (st' := [.int (mx_i h (vn + 15) i1.toNatClampNeg)]) (h' := h) (P := ((mxT vn).1 = 9 ∧ mxG h) ∧ (((mxT (vn + 15)).1 = 50 ∧ mxG h) ∧ vp_in i1 (mxT (vn + 15)).2) ∧ True) 3 rfl rfl ⟨⟨(congrArg Prod.fst (sV_0 (mxS_vn S))), G⟩, (cA (sV_15 (mxS_vn S)) G o3), trivial⟩ ?_
    exact wp_end (o := .inl (some (.int (mx_i h (vn + 15) i1.toNatClampNeg)))) (h' := h) (P := True) rfl rfl trivial H
  have H := H.2 c2
  refine wp_sw (fun (c4 : i2 = 1) => ?_) (fun (c4 : ¬ i2 = 1) => ?_)
  · have H := H.1 c4
    refine wp_steps (i' := 13) (ls' := [some (.ref 100), some (.int i1), some (.int i2)]) (st' := [.ref (mx_r h 100 4)]) (h' := h) (P := ((mxT 100).1 = 10 ∧ mxG h) ∧ True) 2 rfl rfl ⟨⟨(congrArg Prod.fst sT_100), G⟩, trivial⟩ ?_
    rw [mxS_4 S]
    refine wp_steps (i' := 14) (ls' := [some (.ref 100), some (.int i1), some (.int i2)]) (st' := [.int i1, .ref vn]) (h' := h) (P := True) 1 rfl rfl trivial ?_
    refine wp_call (b := false) (y' := 105) (as := [.ref vn, .int i1]) (rest := []) (P := ((mxT vn).1 = mxRc 105 ∧ mxG h)) rfl (by with_unfolding_all rfl) ⟨(congrArg Prod.fst (sV_0 (mxS_vn S))), G⟩ (Nat.le_of_ble_eq_true rfl) (sp_105 G (mxS_vn S) ?_)
    show mx_wp (d + 1) 141 15 [some (.ref 100), some (.int i1), some (.int i2)] [.int (V_105 h vn i1)] h Q
    have J : ∀ (v5 : Int32) (ev5 : v5 = ((if (V_105 h vn i1) = 0 then 0 else 1) : Int32)), mx_wp (d + 1) 141 19 [some (.ref 100), some (.int i1), some (.int i2)] [.int v5] h Q := by
      intro v5 ev5
      have H := H v5 ev5
      exact wp_end (o := .inl (some (.int v5))) (h' := h) (P := True) rfl rfl trivial H
    refine wp_br (P := True) (c := (V_105 h vn i1) = 0) (t := 18) (st' := []) rfl rfl trivial (fun c6 => ?_) (fun c6 => ?_)
    · skip
      refine wp_steps (i' := 19) (ls' := [some (.ref 100), some (.int i1), some (.int i2)]) (st' := [.int 0]) (h' := h) (P := True) 1 rfl rfl trivial ?_
      exact J _ (by rw [if_pos c6])
    · skip
      refine wp_steps (i' := 17) (ls' := [some (.ref 100), some (.int i1), some (.int i2)]) (st' := [.int 1]) (h' := h) (P := True) 1 rfl rfl trivial ?_
      refine wp_J (j := 19) (st' := [.int 1]) rfl rfl ?_
      exact J _ (by rw [if_neg c6])
  have H := H.2 c4
  refine wp_sw (fun (c7 : i2 = 2) => ?_) (fun (c7 : ¬ i2 = 2) => ?_)
  · have H := H.1 c7
    refine wp_steps (i' := 22) (ls' := [some (.ref 100), some (.int i1), some (.int i2)]) (st' := [.ref (mx_r h 100 4)]) (h' := h) (P := ((mxT 100).1 = 10 ∧ mxG h) ∧ True) 2 rfl rfl ⟨⟨(congrArg Prod.fst sT_100), G⟩, trivial⟩ ?_
    rw [mxS_4 S]
    refine wp_steps (i' := 24) (ls' := [some (.ref 100), some (.int i1), some (.int i2)]) (st' := [.int i1, .ref (vn + 1)]) (h' := h) (P := ((mxT vn).1 = 9 ∧ mxG h) ∧ True) 2 rfl rfl ⟨⟨(congrArg Prod.fst (sV_0 (mxS_vn S))), G⟩, trivial⟩ ?_
    obtain ⟨o8, H⟩ := H
    refine wp_call (b := false) (y' := 48) (as := [.ref (vn + 1), .int i1]) (rest := []) (P := ((mxT (vn + 1)).1 = mxRc 48 ∧ mxG h)) rfl (by with_unfolding_all rfl) ⟨(congrArg Prod.fst (sV_1 (mxS_vn S))), G⟩ (Nat.le_of_ble_eq_true rfl) (sp_48 G (mxS_vn S) o8 ?_)
    show mx_wp (d + 1) 141 25 [some (.ref 100), some (.int i1), some (.int i2)] [.int (V_48 h vn i1)] h Q
    exact wp_end (o := .inl (some (.int (V_48 h vn i1)))) (h' := h) (P := True) rfl rfl trivial H
  have H := H.2 c7
  refine wp_sw (fun (c9 : i2 = 3) => ?_) (fun (c9 : ¬ i2 = 3) => ?_)
  · have H := H.1 c9
    refine wp_steps (i' := 28) (ls' := [some (.ref 100), some (.int i1), some (.int i2)]) (st' := [.ref (mx_r h 100 4)]) (h' := h) (P := ((mxT 100).1 = 10 ∧ mxG h) ∧ True) 2 rfl rfl ⟨⟨(congrArg Prod.fst sT_100), G⟩, trivial⟩ ?_
    rw [mxS_4 S]
    refine wp_steps (i' := 30) (ls' := [some (.ref 100), some (.int i1), some (.int i2)]) (st' := [.int i1, .ref (vn + 7)]) (h' := h) (P := ((mxT vn).1 = 9 ∧ mxG h) ∧ True) 2 rfl rfl ⟨⟨(congrArg Prod.fst (sV_0 (mxS_vn S))), G⟩, trivial⟩ ?_
    obtain ⟨o10, H⟩ := H
    refine wp_call (b := false) (y' := 74) (as := [.ref (vn + 7), .int i1]) (rest := []) (P := ((mxT (vn + 7)).1 = mxRc 74 ∧ mxG h)) rfl (by with_unfolding_all rfl) ⟨(congrArg Prod.fst (sV_7 (mxS_vn S))), G⟩ (Nat.le_of_ble_eq_true rfl) (sp_74 G (mxS_vn S) o10 ?_)
    show mx_wp (d + 1) 141 31 [some (.ref 100), some (.int i1), some (.int i2)] [.int (V_74 h vn i1)] h Q
    exact wp_end (o := .inl (some (.int (V_74 h vn i1)))) (h' := h) (P := True) rfl rfl trivial H
  have H := H.2 c9
  show mx_wp (d + 1) 141 32 [some (.ref 100), some (.int i1), some (.int i2)] [] h Q
  exact wp_end (o := .inr 3) (h' := mx_ex h) (P := mx_c h = 292 ∧ (([] : List Value).map mx_cat).sum ≤ 8) rfl rfl ⟨G.1, Nat.le_of_ble_eq_true rfl⟩ H
/-! 155: StoneBacks.cross(I)Z -/
set_option maxRecDepth 8000 in
theorem tr_155_0 {d : Nat} {h : mxH} {Q : mxO → mxH → Prop} {i1 : Int32} {vn vd vr vq : Nat} (G : mxG h) (S : mxS h vn vd vr vq) (H : (((isI i1 (mx_i h (vn + 1) 0)) → (cB (mx_i h (vn + 7) 0) 10 ∧ (∀ (v3 : Int32), v3 = ((if (mx_i h vn 5) < (V_77 h vn i1) then 0 else 1) : Int32) → Q (.inl (some (.int v3))) h))) ∧ (¬ (isI i1 (mx_i h (vn + 1) 0)) → Q (.inr 2) (mx_ex h)))) : mx_wp (d + 2) 155 0 (mx_fr 155 [.ref 100, .int i1]) [] h Q := by
  show mx_wp (d + 2) 155 0 [some (.ref 100), some (.int i1)] [] h Q
  refine wp_steps (i' := 2) (ls' := [some (.ref 100), some (.int i1)]) (st' := [.int i1, .ref 100]) (h' := h) (P := True) 2 rfl rfl trivial ?_
  refine wp_call (b := false) (y' := 184) (as := [.ref 100, .int i1]) (rest := []) (P := ((mxT 100).1 = mxRc 184 ∧ mxG h)) rfl (by with_unfolding_all rfl) ⟨(congrArg Prod.fst sT_100), G⟩ (Nat.le_of_ble_eq_true rfl) (sp_184 G S (fun c1 => ?_) (fun c1 => H.2 c1))
  show mx_wp (d + 2) 155 3 [some (.ref 100), some (.int i1)] [] h Q
  have H := H.1 c1
  refine wp_steps (i' := 5) (ls' := [some (.ref 100), some (.int i1)]) (st' := [.ref (mx_r h 100 4)]) (h' := h) (P := ((mxT 100).1 = 10 ∧ mxG h) ∧ True) 2 rfl rfl ⟨⟨(congrArg Prod.fst sT_100), G⟩, trivial⟩ ?_
  rw [mxS_4 S]
  refine wp_steps (i' := 7) (ls' := [some (.ref 100), some (.int i1)]) (st' := [.int i1, .ref (vn + 7)]) (h' := h) (P := ((mxT vn).1 = 9 ∧ mxG h) ∧ True) 2 rfl rfl ⟨⟨(congrArg Prod.fst (sV_0 (mxS_vn S))), G⟩, trivial⟩ ?_
  obtain ⟨o2, H⟩ := H
  refine wp_call (b := false) (y' := 77) (as := [.ref (vn + 7), .int i1]) (rest := []) (P := ((mxT (vn + 7)).1 = mxRc 77 ∧ mxG h)) rfl (by with_unfolding_all rfl) ⟨(congrArg Prod.fst (sV_7 (mxS_vn S))), G⟩ (Nat.le_of_ble_eq_true rfl) (sp_77 G (mxS_vn S) o2 ?_)
  show mx_wp (d + 2) 155 8 [some (.ref 100), some (.int i1)] [.int (V_77 h vn i1)] h Q
  refine wp_steps (i' := 10) (ls' := [some (.ref 100), some (.int i1)]) (st' := [.ref (mx_r h 100 4), .int (V_77 h vn i1)]) (h' := h) (P := ((mxT 100).1 = 10 ∧ mxG h) ∧ True) 2 rfl rfl ⟨⟨(congrArg Prod.fst sT_100), G⟩, trivial⟩ ?_
  rw [mxS_4 S]
  refine wp_steps (i' := 11) (ls' := [some (.ref 100), some (.int i1)]) (st' := [.int (mx_i h vn 5), .int (V_77 h vn i1)]) (h' := h) (P := ((mxT vn).1 = 9 ∧ mxG h) ∧ True) 1 rfl rfl ⟨⟨(congrArg Prod.fst (sV_0 (mxS_vn S))), G⟩, trivial⟩ ?_
  have J : ∀ (v3 : Int32) (ev3 : v3 = ((if (mx_i h vn 5) < (V_77 h vn i1) then 0 else 1) : Int32)), mx_wp (d + 2) 155 15 [some (.ref 100), some (.int i1)] [.int v3] h Q := by
    intro v3 ev3
    have H := H v3 ev3
    exact wp_end (o := .inl (some (.int v3))) (h' := h) (P := (v3 = 0 ∨ v3 = 1)) rfl rfl (b01 ev3 (by repeat' (first | exact Or.inl rfl | exact Or.inr rfl | split))) H
  refine wp_br (P := True) (c := (mx_i h vn 5) < (V_77 h vn i1)) (t := 14) (st' := []) rfl rfl trivial (fun c4 => ?_) (fun c4 => ?_)
  · skip
    refine wp_steps (i' := 15) (ls' := [some (.ref 100), some (.int i1)]) (st' := [.int 0]) (h' := h) (P := True) 1 rfl rfl trivial ?_
    exact J _ (by rw [if_pos c4])
  · skip
    refine wp_steps (i' := 13) (ls' := [some (.ref 100), some (.int i1)]) (st' := [.int 1]) (h' := h) (P := True) 1 rfl rfl trivial ?_
    refine wp_J (j := 15) (st' := [.int 1]) rfl rfl ?_
    exact J _ (by rw [if_neg c4])
/-! 165: StoneBacks.rests(III)I -/
set_option maxRecDepth 8000 in
theorem tr_165_0 {d : Nat} {h : mxH} {Q : mxO → mxH → Prop} {i1 : Int32} {i2 : Int32} {i3 : Int32} {vn vd vr vq : Nat} (G : mxG h) (S : mxS h vn vd vr vq) (H : (((isI i1 (mx_i h (vn + 1) 0)) → (((isI i2 (mx_i h (vn + 1) 0)) → ((i1 = i2 → Q (.inr 0) (mx_ex h)) ∧ (¬ i1 = i2 → ((i3 < 1 → Q (.inr 0) (mx_ex h)) ∧ (¬ i3 < 1 → ((40 < i3 → Q (.inr 0) (mx_ex h)) ∧ (¬ 40 < i3 → (vp_in i2 6 ∧ (cB (mx_i h (vn + 7) 0) 10 ∧ Q (.inl (some (.int (V_16 h ((mx_i h (vn + 3) i2.toNatClampNeg) - (V_77 h vn i2)) i3)))) h))))))))) ∧ (¬ (isI i2 (mx_i h (vn + 1) 0)) → Q (.inr 2) (mx_ex h)))) ∧ (¬ (isI i1 (mx_i h (vn + 1) 0)) → Q (.inr 2) (mx_ex h)))) : mx_wp (d + 2) 165 0 (mx_fr 165 [.ref 100, .int i1, .int i2, .int i3]) [] h Q := by
  show mx_wp (d + 2) 165 0 [some (.ref 100), some (.int i1), some (.int i2), some (.int i3)] [] h Q
  refine wp_steps (i' := 2) (ls' := [some (.ref 100), some (.int i1), some (.int i2), some (.int i3)]) (st' := [.int i1, .ref 100]) (h' := h) (P := True) 2 rfl rfl trivial ?_
  refine wp_call (b := false) (y' := 184) (as := [.ref 100, .int i1]) (rest := []) (P := ((mxT 100).1 = mxRc 184 ∧ mxG h)) rfl (by with_unfolding_all rfl) ⟨(congrArg Prod.fst sT_100), G⟩ (Nat.le_of_ble_eq_true rfl) (sp_184 G S (fun c1 => ?_) (fun c1 => H.2 c1))
  show mx_wp (d + 2) 165 3 [some (.ref 100), some (.int i1), some (.int i2), some (.int i3)] [] h Q
  have H := H.1 c1
  refine wp_steps (i' := 5) (ls' := [some (.ref 100), some (.int i1), some (.int i2), some (.int i3)]) (st' := [.int i2, .ref 100]) (h' := h) (P := True) 2 rfl rfl trivial ?_
  refine wp_call (b := false) (y' := 184) (as := [.ref 100, .int i2]) (rest := []) (P := ((mxT 100).1 = mxRc 184 ∧ mxG h)) rfl (by with_unfolding_all rfl) ⟨(congrArg Prod.fst sT_100), G⟩ (Nat.le_of_ble_eq_true rfl) (sp_184 G S (fun c2 => ?_) (fun c2 => H.2 c2))
  show mx_wp (d + 2) 165 6 [some (.ref 100), some (.int i1), some (.int i2), some (.int i3)] [] h Q
  have H := H.1 c2
  refine wp_steps (i' := 8) (ls' := [some (.ref 100), some (.int i1), some (.int i2), some (.int i3)]) (st' := [.int i2, .int i1]) (h' := h) (P := True) 2 rfl rfl trivial ?_
  refine wp_br (P := True) (c := i1 = i2) (t := 15) (st' := []) rfl rfl trivial (fun c3 => ?_) (fun c3 => ?_)
  · skip
    have H := H.1 c3
    exact wp_end (o := .inr 0) (h' := mx_ex h) (P := mx_c h = 292 ∧ (([] : List Value).map mx_cat).sum ≤ 8) rfl rfl ⟨G.1, Nat.le_of_ble_eq_true rfl⟩ H
  · skip
    have H := H.2 c3
    refine wp_steps (i' := 11) (ls' := [some (.ref 100), some (.int i1), some (.int i2), some (.int i3)]) (st' := [.int 1, .int i3]) (h' := h) (P := True) 2 rfl rfl trivial ?_
    refine wp_br (P := True) (c := i3 < 1) (t := 15) (st' := []) rfl rfl trivial (fun c4 => ?_) (fun c4 => ?_)
    · skip
      have H := H.1 c4
      exact wp_end (o := .inr 0) (h' := mx_ex h) (P := mx_c h = 292 ∧ (([] : List Value).map mx_cat).sum ≤ 8) rfl rfl ⟨G.1, Nat.le_of_ble_eq_true rfl⟩ H
    · skip
      have H := H.2 c4
      refine wp_steps (i' := 14) (ls' := [some (.ref 100), some (.int i1), some (.int i2), some (.int i3)]) (st' := [.int 40, .int i3]) (h' := h) (P := True) 2 rfl rfl trivial ?_
      refine wp_br (P := True) (c := i3 ≤ 40) (t := 20) (st' := []) rfl rfl trivial (fun c5 => ?_) (fun c5 => ?_)
      · have c5 := Int32.not_lt.mpr c5
        have H := H.2 c5
        refine wp_steps (i' := 22) (ls' := [some (.ref 100), some (.int i1), some (.int i2), some (.int i3)]) (st' := [.ref (mx_r h 100 4)]) (h' := h) (P := ((mxT 100).1 = 10 ∧ mxG h) ∧ True) 2 rfl rfl ⟨⟨(congrArg Prod.fst sT_100), G⟩, trivial⟩ ?_
        rw [mxS_4 S]
        obtain ⟨o6, H⟩ := H
        refine wp_steps (i' := 28) (ls' := [some (.ref 100), some (.int i1), some (.int i2), some (.int i3)]) (st' := [.ref (mx_r h 100 4), .int (mx_i h (vn + 3) i2.toNatClampNeg)]) (h' := h) (P := ((mxT vn).1 = 9 ∧ mxG h) ∧ ((mxT (vn + 1)).1 = 5 ∧ mxG h) ∧ (((mxT (vn + 3)).1 = 50 ∧ mxG h) ∧ vp_in i2 (mxT (vn + 3)).2) ∧ ((mxT 100).1 = 10 ∧ mxG h) ∧ True) 6 rfl rfl ⟨⟨(congrArg Prod.fst (sV_0 (mxS_vn S))), G⟩, ⟨(congrArg Prod.fst (sV_1 (mxS_vn S))), G⟩, (cA (sV_3 (mxS_vn S)) G o6), ⟨(congrArg Prod.fst sT_100), G⟩, trivial⟩ ?_
        rw [mxS_4 S]
        refine wp_steps (i' := 30) (ls' := [some (.ref 100), some (.int i1), some (.int i2), some (.int i3)]) (st' := [.int i2, .ref (vn + 7), .int (mx_i h (vn + 3) i2.toNatClampNeg)]) (h' := h) (P := ((mxT vn).1 = 9 ∧ mxG h) ∧ True) 2 rfl rfl ⟨⟨(congrArg Prod.fst (sV_0 (mxS_vn S))), G⟩, trivial⟩ ?_
        obtain ⟨o7, H⟩ := H
        refine wp_call (b := false) (y' := 77) (as := [.ref (vn + 7), .int i2]) (rest := [.int (mx_i h (vn + 3) i2.toNatClampNeg)]) (P := ((mxT (vn + 7)).1 = mxRc 77 ∧ mxG h)) rfl (by with_unfolding_all rfl) ⟨(congrArg Prod.fst (sV_7 (mxS_vn S))), G⟩ (Nat.le_of_ble_eq_true rfl) (sp_77 G (mxS_vn S) o7 ?_)
        show mx_wp (d + 2) 165 31 [some (.ref 100), some (.int i1), some (.int i2), some (.int i3)] [.int (V_77 h vn i2), .int (mx_i h (vn + 3) i2.toNatClampNeg)] h Q
        refine wp_steps (i' := 33) (ls' := [some (.ref 100), some (.int i1), some (.int i2), some (.int i3)]) (st' := [.int i3, .int ((mx_i h (vn + 3) i2.toNatClampNeg) - (V_77 h vn i2))]) (h' := h) (P := True) 2 rfl rfl trivial ?_
        refine wp_call (b := false) (y' := 16) (as := [.int ((mx_i h (vn + 3) i2.toNatClampNeg) - (V_77 h vn i2)), .int i3]) (rest := []) (P := True) rfl (by with_unfolding_all rfl) trivial (Nat.le_of_ble_eq_true rfl) (sp_16 G ?_)
        show mx_wp (d + 2) 165 34 [some (.ref 100), some (.int i1), some (.int i2), some (.int i3)] [.int (V_16 h ((mx_i h (vn + 3) i2.toNatClampNeg) - (V_77 h vn i2)) i3)] h Q
        exact wp_end (o := .inl (some (.int (V_16 h ((mx_i h (vn + 3) i2.toNatClampNeg) - (V_77 h vn i2)) i3)))) (h' := h) (P := True) rfl rfl trivial H
      · have c5 := Int32.not_le.mp c5
        have H := H.1 c5
        exact wp_end (o := .inr 0) (h' := mx_ex h) (P := mx_c h = 292 ∧ (([] : List Value).map mx_cat).sum ≤ 8) rfl rfl ⟨G.1, Nat.le_of_ble_eq_true rfl⟩ H
