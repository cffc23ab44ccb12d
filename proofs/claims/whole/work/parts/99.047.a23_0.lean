/-! 151: StoneBacks.hours(I)I -/
def H_151_17 (d : Nat) (h : mxH) (i1 : Int32) (i2 : Int32) (i3 : Int32) (Q : mxO → mxH → Prop) : Prop := mx_wp d 151 17 [some (.ref 100), some (.int i1), some (.int i2), some (.int i3)] [] h Q
set_option maxRecDepth 8000 in
theorem tr_151_0 {d : Nat} {h : mxH} {Q : mxO → mxH → Prop} {i1 : Int32} {vn vd vr vq : Nat} (G : mxG h) (S : mxS h vn vd vr vq) (H : ((i1 < 1 → Q (.inr 0) (mx_ex h)) ∧ (¬ i1 < 1 → ((100 < i1 → Q (.inr 0) (mx_ex h)) ∧ (¬ 100 < i1 → (cB (mx_i h 100 12) 11 ∧ cB (mx_i h 100 13) 12 ∧ (∀ (h6 : mxH), rmC vn h h6 → H_151_17 (d + 5) h6 i1 0 0 Q))))))) : mx_wp (d + 5) 151 0 (mx_fr 151 [.ref 100, .int i1]) [] h Q := by
  show mx_wp (d + 5) 151 0 [some (.ref 100), some (.int i1), none, none] [] h Q
  refine wp_steps (i' := 2) (ls' := [some (.ref 100), some (.int i1), none, none]) (st' := [.int 1, .int i1]) (h' := h) (P := True) 2 rfl rfl trivial ?_
  refine wp_br (P := True) (c := i1 < 1) (t := 6) (st' := []) rfl rfl trivial (fun c1 => ?_) (fun c1 => ?_)
  · skip
    have H := H.1 c1
    exact wp_end (o := .inr 0) (h' := mx_ex h) (P := mx_c h = 292 ∧ (([] : List Value).map mx_cat).sum ≤ 8) rfl rfl ⟨G.1, Nat.le_of_ble_eq_true rfl⟩ H
  · skip
    have H := H.2 c1
    refine wp_steps (i' := 5) (ls' := [some (.ref 100), some (.int i1), none, none]) (st' := [.int 100, .int i1]) (h' := h) (P := True) 2 rfl rfl trivial ?_
    refine wp_br (P := True) (c := i1 ≤ 100) (t := 11) (st' := []) rfl rfl trivial (fun c2 => ?_) (fun c2 => ?_)
    · have c2 := Int32.not_lt.mpr c2
      have H := H.2 c2
      refine wp_steps (i' := 12) (ls' := [some (.ref 100), some (.int i1), none, none]) (st' := [.ref 100]) (h' := h) (P := True) 1 rfl rfl trivial ?_
      obtain ⟨o3, o4, H⟩ := H
      refine wp_call (b := false) (y' := 182) (as := [.ref 100]) (rest := []) (P := ((mxT 100).1 = mxRc 182 ∧ mxG h)) rfl (by with_unfolding_all rfl) ⟨(congrArg Prod.fst sT_100), G⟩ (Nat.le_of_ble_eq_true rfl) (sp_182 G S o3 o4 ?_)
      intro h6 p7
      show mx_wp (d + 5) 151 13 [some (.ref 100), some (.int i1), none, none] [] h6 Q
      have H := H h6 p7
      have G8 : mxG h6 := mxU_G p7.1 G
      have S9 := mxS_of (mxU_r p7.1) S
      refine wp_steps (i' := 17) (ls' := [some (.ref 100), some (.int i1), some (.int 0), some (.int 0)]) (st' := []) (h' := h6) (P := True) 4 rfl rfl trivial ?_
      exact H 
    · have c2 := Int32.not_le.mp c2
      have H := H.1 c2
      exact wp_end (o := .inr 0) (h' := mx_ex h) (P := mx_c h = 292 ∧ (([] : List Value).map mx_cat).sum ≤ 8) rfl rfl ⟨G.1, Nat.le_of_ble_eq_true rfl⟩ H
set_option maxRecDepth 8000 in
theorem tr_151_17 {d : Nat} {h : mxH} {Q : mxO → mxH → Prop} {vn vd vr vq : Nat} {i1 : Int32} {i2 : Int32} {i3 : Int32} (G : mxG h) (S : mxS h vn vd vr vq) (H : ((i3 < i1 → (okH0 h vn vr ∧ (∀ (x3 : Int32) (h4 : mxH), p110 vn vr (1 : Int32) h x3 h4 → H_151_17 (d + 5) h4 i1 (i2 + x3) (i3 + 1) Q))) ∧ (¬ i3 < i1 → Q (.inl (some (.int i2))) h))) : H_151_17 (d + 5) h i1 i2 i3 Q := by
  show mx_wp (d + 5) 151 17 [some (.ref 100), some (.int i1), some (.int i2), some (.int i3)] [] h Q
  refine wp_steps (i' := 19) (ls' := [some (.ref 100), some (.int i1), some (.int i2), some (.int i3)]) (st' := [.int i1, .int i3]) (h' := h) (P := True) 2 rfl rfl trivial ?_
  refine wp_br (P := True) (c := i1 ≤ i3) (t := 31) (st' := []) rfl rfl trivial (fun c1 => ?_) (fun c1 => ?_)
  · have c1 := Int32.not_lt.mpr c1
    have H := H.2 c1
    refine wp_steps (i' := 32) (ls' := [some (.ref 100), some (.int i1), some (.int i2), some (.int i3)]) (st' := [.int i2]) (h' := h) (P := True) 1 rfl rfl trivial ?_
    exact wp_end (o := .inl (some (.int i2))) (h' := h) (P := True) rfl rfl trivial H
  · have c1 := Int32.not_le.mp c1
    have H := H.1 c1
    refine wp_steps (i' := 23) (ls' := [some (.ref 100), some (.int i1), some (.int i2), some (.int i3)]) (st' := [.ref (mx_r h 100 4), .int i2]) (h' := h) (P := ((mxT 100).1 = 10 ∧ mxG h) ∧ True) 3 rfl rfl ⟨⟨(congrArg Prod.fst sT_100), G⟩, trivial⟩ ?_
    rw [mxS_4 S]
    refine wp_steps (i' := 25) (ls' := [some (.ref 100), some (.int i1), some (.int i2), some (.int i3)]) (st' := [.ref (mx_r h 100 6), .ref vn, .int i2]) (h' := h) (P := ((mxT 100).1 = 10 ∧ mxG h) ∧ True) 2 rfl rfl ⟨⟨(congrArg Prod.fst sT_100), G⟩, trivial⟩ ?_
    rw [mxS_6 S]
    refine wp_steps (i' := 26) (ls' := [some (.ref 100), some (.int i1), some (.int i2), some (.int i3)]) (st' := [.int 1, .ref vr, .ref vn, .int i2]) (h' := h) (P := True) 1 rfl rfl trivial ?_
    obtain ⟨o2, H⟩ := H
    refine wp_call (b := false) (y' := 110) (as := [.ref vn, .ref vr, .int 1]) (rest := [.int i2]) (P := ((mxT vn).1 = mxRc 110 ∧ mxG h)) rfl (by with_unfolding_all rfl) ⟨(congrArg Prod.fst (sV_0 (mxS_vn S))), G⟩ (Nat.le_of_ble_eq_true rfl) (sp_110 G (mxS_vn S) (mxS_vr S) o2 ?_)
    intro x3 h4 p5
    show mx_wp (d + 5) 151 27 [some (.ref 100), some (.int i1), some (.int i2), some (.int i3)] [.int x3, .int i2] h4 Q
    have H := H x3 h4 p5
    have G6 : mxG h4 := mxU_G p5.1 G
    have S7 := mxS_of (mxU_r p5.1) S
    refine wp_steps (i' := 30) (ls' := [some (.ref 100), some (.int i1), some (.int (i2 + x3)), some (.int (i3 + 1))]) (st' := []) (h' := h4) (P := True) 3 rfl rfl trivial ?_
    refine wp_J (j := 17) (st' := []) rfl rfl ?_
    exact H 
/-! 169: StoneBacks.first(I)I -/
def H_169_10 (d : Nat) (h : mxH) (i1 : Int32) (i2 : Int32) (Q : mxO → mxH → Prop) : Prop := mx_wp d 169 10 [some (.ref 100), some (.int i1), some (.int i2)] [] h Q
set_option maxRecDepth 8000 in
theorem tr_169_0 {d : Nat} {h : mxH} {Q : mxO → mxH → Prop} {i1 : Int32} {vn vd vr vq : Nat} (G : mxG h) (S : mxS h vn vd vr vq) (H : (((isI i1 (mx_i h (vn + 1) 0)) → ((∀ (h3 : mxH), cpR 0 16 vd vn h h3 → H_169_10 (d + 5) h3 i1 0 Q))) ∧ (¬ (isI i1 (mx_i h (vn + 1) 0)) → Q (.inr 2) (mx_ex h)))) : mx_wp (d + 5) 169 0 (mx_fr 169 [.ref 100, .int i1]) [] h Q := by
  show mx_wp (d + 5) 169 0 [some (.ref 100), some (.int i1), none] [] h Q
  refine wp_steps (i' := 2) (ls' := [some (.ref 100), some (.int i1), none]) (st' := [.int i1, .ref 100]) (h' := h) (P := True) 2 rfl rfl trivial ?_
  refine wp_call (b := false) (y' := 184) (as := [.ref 100, .int i1]) (rest := []) (P := ((mxT 100).1 = mxRc 184 ∧ mxG h)) rfl (by with_unfolding_all rfl) ⟨(congrArg Prod.fst sT_100), G⟩ (Nat.le_of_ble_eq_true rfl) (sp_184 G S (fun c1 => ?_) (fun c1 => H.2 c1))
  show mx_wp (d + 5) 169 3 [some (.ref 100), some (.int i1), none] [] h Q
  have H := H.1 c1
  refine wp_steps (i' := 5) (ls' := [some (.ref 100), some (.int i1), none]) (st' := [.ref (mx_r h 100 5)]) (h' := h) (P := ((mxT 100).1 = 10 ∧ mxG h) ∧ True) 2 rfl rfl ⟨⟨(congrArg Prod.fst sT_100), G⟩, trivial⟩ ?_
  rw [mxS_5 S]
  refine wp_steps (i' := 7) (ls' := [some (.ref 100), some (.int i1), none]) (st' := [.ref (mx_r h 100 4), .ref vd]) (h' := h) (P := ((mxT 100).1 = 10 ∧ mxG h) ∧ True) 2 rfl rfl ⟨⟨(congrArg Prod.fst sT_100), G⟩, trivial⟩ ?_
  rw [mxS_4 S]
  refine wp_call (b := false) (y' := 103) (as := [.ref vd, .ref vn]) (rest := []) (P := ((mxT vd).1 = mxRc 103 ∧ mxG h)) rfl (by with_unfolding_all rfl) ⟨(congrArg Prod.fst (sV_0 (mxS_vd S))), G⟩ (Nat.le_of_ble_eq_true rfl) (sp_103 G (mxS_vd S) (mxS_vn S) ?_)
  intro h3 p4
  show mx_wp (d + 5) 169 8 [some (.ref 100), some (.int i1), none] [] h3 Q
  have H := H h3 p4
  have G5 : mxG h3 := mxU_G p4.1 G
  have S6 := mxS_of (mxU_r p4.1) S
  refine wp_steps (i' := 10) (ls' := [some (.ref 100), some (.int i1), some (.int 0)]) (st' := []) (h' := h3) (P := True) 2 rfl rfl trivial ?_
  exact H 
set_option maxRecDepth 8000 in
theorem tr_169_10 {d : Nat} {h : mxH} {Q : mxO → mxH → Prop} {vn vd vr vq : Nat} {i1 : Int32} {i2 : Int32} (G : mxG h) (S : mxS h vn vd vr vq) (H : ((200 < i2 → Q (.inl (some (.int (-1)))) h) ∧ (¬ 200 < i2 → (vp_in i1 6 ∧ (cB (mx_i h (vd + 7) 0) 10 ∧ (((mx_i h (vd + 2) i1.toNatClampNeg) < (V_78 h vd i1) → (okH0 h vd vr ∧ (∀ (x6 : Int32) (h7 : mxH), p110 vd vr (0 : Int32) h x6 h7 → H_169_10 (d + 5) h7 i1 (i2 + 1) Q))) ∧ (¬ (mx_i h (vd + 2) i1.toNatClampNeg) < (V_78 h vd i1) → Q (.inl (some (.int i2))) h))))))) : H_169_10 (d + 5) h i1 i2 Q := by
  show mx_wp (d + 5) 169 10 [some (.ref 100), some (.int i1), some (.int i2)] [] h Q
  refine wp_steps (i' := 12) (ls' := [some (.ref 100), some (.int i1), some (.int i2)]) (st' := [.int 200, .int i2]) (h' := h) (P := True) 2 rfl rfl trivial ?_
  refine wp_br (P := True) (c := 200 < i2) (t := 36) (st' := []) rfl rfl trivial (fun c1 => ?_) (fun c1 => ?_)
  · skip
    have H := H.1 c1
    refine wp_steps (i' := 37) (ls' := [some (.ref 100), some (.int i1), some (.int i2)]) (st' := [.int (-1)]) (h' := h) (P := True) 1 rfl rfl trivial ?_
    exact wp_end (o := .inl (some (.int (-1)))) (h' := h) (P := True) rfl rfl trivial H
  · skip
    have H := H.2 c1
    refine wp_steps (i' := 15) (ls' := [some (.ref 100), some (.int i1), some (.int i2)]) (st' := [.ref (mx_r h 100 5)]) (h' := h) (P := ((mxT 100).1 = 10 ∧ mxG h) ∧ True) 2 rfl rfl ⟨⟨(congrArg Prod.fst sT_100), G⟩, trivial⟩ ?_
    rw [mxS_5 S]
    obtain ⟨o2, H⟩ := H
    refine wp_steps (i' := 21) (ls' := [some (.ref 100), some (.int i1), some (.int i2)]) (st' := [.ref (mx_r h 100 5), .int (mx_i h (vd + 2) i1.toNatClampNeg)]) (h' := h) (P := ((mxT vd).1 = 9 ∧ mxG h) ∧ ((mxT (vd + 1)).1 = 5 ∧ mxG h) ∧ (((mxT (vd + 2)).1 = 50 ∧ mxG h) ∧ vp_in i1 (mxT (vd + 2)).2) ∧ ((mxT 100).1 = 10 ∧ mxG h) ∧ True) 6 rfl rfl ⟨⟨(congrArg Prod.fst (sV_0 (mxS_vd S))), G⟩, ⟨(congrArg Prod.fst (sV_1 (mxS_vd S))), G⟩, (cA (sV_2 (mxS_vd S)) G o2), ⟨(congrArg Prod.fst sT_100), G⟩, trivial⟩ ?_
    rw [mxS_5 S]
    refine wp_steps (i' := 23) (ls' := [some (.ref 100), some (.int i1), some (.int i2)]) (st' := [.int i1, .ref (vd + 7), .int (mx_i h (vd + 2) i1.toNatClampNeg)]) (h' := h) (P := ((mxT vd).1 = 9 ∧ mxG h) ∧ True) 2 rfl rfl ⟨⟨(congrArg Prod.fst (sV_0 (mxS_vd S))), G⟩, trivial⟩ ?_
    obtain ⟨o3, H⟩ := H
    refine wp_call (b := false) (y' := 78) (as := [.ref (vd + 7), .int i1]) (rest := [.int (mx_i h (vd + 2) i1.toNatClampNeg)]) (P := ((mxT (vd + 7)).1 = mxRc 78 ∧ mxG h)) rfl (by with_unfolding_all rfl) ⟨(congrArg Prod.fst (sV_7 (mxS_vd S))), G⟩ (Nat.le_of_ble_eq_true rfl) (sp_78 G (mxS_vd S) o3 ?_)
    show mx_wp (d + 5) 169 24 [some (.ref 100), some (.int i1), some (.int i2)] [.int (V_78 h vd i1), .int (mx_i h (vd + 2) i1.toNatClampNeg)] h Q
    refine wp_br (P := True) (c := (mx_i h (vd + 2) i1.toNatClampNeg) < (V_78 h vd i1)) (t := 27) (st' := []) rfl rfl trivial (fun c4 => ?_) (fun c4 => ?_)
    · skip
      have H := H.1 c4
      refine wp_steps (i' := 29) (ls' := [some (.ref 100), some (.int i1), some (.int i2)]) (st' := [.ref (mx_r h 100 5)]) (h' := h) (P := ((mxT 100).1 = 10 ∧ mxG h) ∧ True) 2 rfl rfl ⟨⟨(congrArg Prod.fst sT_100), G⟩, trivial⟩ ?_
      rw [mxS_5 S]
      refine wp_steps (i' := 31) (ls' := [some (.ref 100), some (.int i1), some (.int i2)]) (st' := [.ref (mx_r h 100 6), .ref vd]) (h' := h) (P := ((mxT 100).1 = 10 ∧ mxG h) ∧ True) 2 rfl rfl ⟨⟨(congrArg Prod.fst sT_100), G⟩, trivial⟩ ?_
      rw [mxS_6 S]
      refine wp_steps (i' := 32) (ls' := [some (.ref 100), some (.int i1), some (.int i2)]) (st' := [.int 0, .ref vr, .ref vd]) (h' := h) (P := True) 1 rfl rfl trivial ?_
      obtain ⟨o5, H⟩ := H
      refine wp_call (b := false) (y' := 110) (as := [.ref vd, .ref vr, .int 0]) (rest := []) (P := ((mxT vd).1 = mxRc 110 ∧ mxG h)) rfl (by with_unfolding_all rfl) ⟨(congrArg Prod.fst (sV_0 (mxS_vd S))), G⟩ (Nat.le_of_ble_eq_true rfl) (sp_110 G (mxS_vd S) (mxS_vr S) o5 ?_)
      intro x6 h7 p8
      show mx_wp (d + 5) 169 33 [some (.ref 100), some (.int i1), some (.int i2)] [.int x6] h7 Q
      have H := H x6 h7 p8
      have G9 : mxG h7 := mxU_G p8.1 G
      have S10 := mxS_of (mxU_r p8.1) S
      refine wp_steps (i' := 35) (ls' := [some (.ref 100), some (.int i1), some (.int (i2 + 1))]) (st' := []) (h' := h7) (P := True) 2 rfl rfl trivial ?_
      refine wp_J (j := 10) (st' := []) rfl rfl ?_
      exact H 
    · skip
      have H := H.2 c4
      refine wp_steps (i' := 26) (ls' := [some (.ref 100), some (.int i1), some (.int i2)]) (st' := [.int i2]) (h' := h) (P := True) 1 rfl rfl trivial ?_
      exact wp_end (o := .inl (some (.int i2))) (h' := h) (P := True) rfl rfl trivial H
/-! 170: StoneBacks.last(Z)I -/
def H_170_7 (d : Nat) (h : mxH) (i1 : Int32) (i2 : Int32) (Q : mxO → mxH → Prop) : Prop := ∀ (w3 : Option Value), mx_wp d 170 7 [some (.ref 100), some (.int i1), some (.int i2), w3] [] h Q
set_option maxRecDepth 8000 in
theorem tr_170_0 {d : Nat} {h : mxH} {Q : mxO → mxH → Prop} {i1 : Int32} {vn vd vr vq : Nat} (G : mxG h) (S : mxS h vn vd vr vq) (H : ((∀ (h2 : mxH), cpR 0 16 vd vn h h2 → H_170_7 (d + 5) h2 i1 0 Q))) : mx_wp (d + 5) 170 0 (mx_fr 170 [.ref 100, .int i1]) [] h Q := by
  show mx_wp (d + 5) 170 0 [some (.ref 100), some (.int i1), none, none] [] h Q
  refine wp_steps (i' := 2) (ls' := [some (.ref 100), some (.int i1), none, none]) (st' := [.ref (mx_r h 100 5)]) (h' := h) (P := ((mxT 100).1 = 10 ∧ mxG h) ∧ True) 2 rfl rfl ⟨⟨(congrArg Prod.fst sT_100), G⟩, trivial⟩ ?_
  rw [mxS_5 S]
  refine wp_steps (i' := 4) (ls' := [some (.ref 100), some (.int i1), none, none]) (st' := [.ref (mx_r h 100 4), .ref vd]) (h' := h) (P := ((mxT 100).1 = 10 ∧ mxG h) ∧ True) 2 rfl rfl ⟨⟨(congrArg Prod.fst sT_100), G⟩, trivial⟩ ?_
  rw [mxS_4 S]
  refine wp_call (b := false) (y' := 103) (as := [.ref vd, .ref vn]) (rest := []) (P := ((mxT vd).1 = mxRc 103 ∧ mxG h)) rfl (by with_unfolding_all rfl) ⟨(congrArg Prod.fst (sV_0 (mxS_vd S))), G⟩ (Nat.le_of_ble_eq_true rfl) (sp_103 G (mxS_vd S) (mxS_vn S) ?_)
  intro h2 p3
  show mx_wp (d + 5) 170 5 [some (.ref 100), some (.int i1), none, none] [] h2 Q
  have H := H h2 p3
  have G4 : mxG h2 := mxU_G p3.1 G
  have S5 := mxS_of (mxU_r p3.1) S
  refine wp_steps (i' := 7) (ls' := [some (.ref 100), some (.int i1), some (.int 0), none]) (st' := []) (h' := h2) (P := True) 2 rfl rfl trivial ?_
  exact H _
set_option maxRecDepth 8000 in
theorem tr_170_7 {d : Nat} {h : mxH} {Q : mxO → mxH → Prop} {vn vd vr vq : Nat} {i1 : Int32} {i2 : Int32} (G : mxG h) (S : mxS h vn vd vr vq) (H : ((200 < i2 → Q (.inl (some (.int (-1)))) h) ∧ (¬ 200 < i2 → (cB (mx_i h (vd + 1) 0) 6 ∧ cB (mx_i h (vd + 7) 0) 10 ∧ (((V_107 h vd) = (-1) → (okH0 h vd vr ∧ (∀ (x6 : Int32) (h7 : mxH), p110 vd vr (0 : Int32) h x6 h7 → H_170_7 (d + 5) h7 i1 (i2 + 1) Q))) ∧ (¬ (V_107 h vd) = (-1) → (∀ (v11 : Int32), v11 = ((if i1 = 0 then i2 else (V_107 h vd)) : Int32) → Q (.inl (some (.int v11))) h))))))) : H_170_7 (d + 5) h i1 i2 Q := by
  intro w3
  show mx_wp (d + 5) 170 7 [some (.ref 100), some (.int i1), some (.int i2), w3] [] h Q
  refine wp_steps (i' := 9) (ls' := [some (.ref 100), some (.int i1), some (.int i2), w3]) (st' := [.int 200, .int i2]) (h' := h) (P := True) 2 rfl rfl trivial ?_
  refine wp_br (P := True) (c := 200 < i2) (t := 32) (st' := []) rfl rfl trivial (fun c1 => ?_) (fun c1 => ?_)
  · skip
    have H := H.1 c1
    refine wp_steps (i' := 33) (ls' := [some (.ref 100), some (.int i1), some (.int i2), w3]) (st' := [.int (-1)]) (h' := h) (P := True) 1 rfl rfl trivial ?_
    exact wp_end (o := .inl (some (.int (-1)))) (h' := h) (P := True) rfl rfl trivial H
  · skip
    have H := H.2 c1
    refine wp_steps (i' := 12) (ls' := [some (.ref 100), some (.int i1), some (.int i2), w3]) (st' := [.ref (mx_r h 100 5)]) (h' := h) (P := ((mxT 100).1 = 10 ∧ mxG h) ∧ True) 2 rfl rfl ⟨⟨(congrArg Prod.fst sT_100), G⟩, trivial⟩ ?_
    rw [mxS_5 S]
    obtain ⟨o2, o3, H⟩ := H
    refine wp_call (b := false) (y' := 107) (as := [.ref vd]) (rest := []) (P := ((mxT vd).1 = mxRc 107 ∧ mxG h)) rfl (by with_unfolding_all rfl) ⟨(congrArg Prod.fst (sV_0 (mxS_vd S))), G⟩ (Nat.le_of_ble_eq_true rfl) (sp_107 G (mxS_vd S) o2 o3 ?_)
    show mx_wp (d + 5) 170 13 [some (.ref 100), some (.int i1), some (.int i2), w3] [.int (V_107 h vd)] h Q
    refine wp_steps (i' := 16) (ls' := [some (.ref 100), some (.int i1), some (.int i2), some (.int (V_107 h vd))]) (st' := [.int (-1), .int (V_107 h vd)]) (h' := h) (P := True) 3 rfl rfl trivial ?_
    refine wp_br (P := True) (c := (V_107 h vd) = (-1)) (t := 23) (st' := []) rfl rfl trivial (fun c4 => ?_) (fun c4 => ?_)
    · skip
      have H := H.1 c4
      refine wp_steps (i' := 25) (ls' := [some (.ref 100), some (.int i1), some (.int i2), some (.int (V_107 h vd))]) (st' := [.ref (mx_r h 100 5)]) (h' := h) (P := ((mxT 100).1 = 10 ∧ mxG h) ∧ True) 2 rfl rfl ⟨⟨(congrArg Prod.fst sT_100), G⟩, trivial⟩ ?_
      rw [mxS_5 S]
      refine wp_steps (i' := 27) (ls' := [some (.ref 100), some (.int i1), some (.int i2), some (.int (V_107 h vd))]) (st' := [.ref (mx_r h 100 6), .ref vd]) (h' := h) (P := ((mxT 100).1 = 10 ∧ mxG h) ∧ True) 2 rfl rfl ⟨⟨(congrArg Prod.fst sT_100), G⟩, trivial⟩ ?_
      rw [mxS_6 S]
      refine wp_steps (i' := 28) (ls' := [some (.ref 100), some (.int i1), some (.int i2), some (.int (V_107 h vd))]) (st' := [.int 0, .ref vr, .ref vd]) (h' := h) (P := True) 1 rfl rfl trivial ?_
      obtain ⟨o5, H⟩ := H
      refine wp_call (b := false) (y' := 110) (as := [.ref vd, .ref vr, .int 0]) (rest := []) (P := ((mxT vd).1 = mxRc 110 ∧ mxG h)) rfl (by with_unfolding_all rfl) ⟨(congrArg Prod.fst (sV_0 (mxS_vd S))), G⟩ (Nat.le_of_ble_eq_true rfl) (sp_110 G (mxS_vd S) (mxS_vr S) o5 ?_)
      intro x6 h7 p8
      show mx_wp (d + 5) 170 29 [some (.ref 100), some (.int i1), some (.int i2), some (.int (V_107 h vd))] [.int x6] h7 Q
      have H := H x6 h7 p8
      have G9 : mxG h7 := mxU_G p8.1 G
      have S10 := mxS_of (mxU_r p8.1) S
      refine wp_steps (i' := 31) (ls' := [some (.ref 100), some (.int i1), some (.int (i2 + 1)), some (.int (V_107 h vd))]) (st' := []) (h' := h7) (P := True) 2 rfl rfl trivial ?_
      refine wp_J (j := 7) (st' := []) rfl rfl ?_
      exact H _
    · skip
      have H := H.2 c4
      refine wp_steps (i' := 18) (ls' := [some (.ref 100), some (.int i1), some (.int i2), some (.int (V_107 h vd))]) (st' := [.int i1]) (h' := h) (P := True) 1 rfl rfl trivial ?_
      have J : ∀ (v11 : Int32) (ev11 : v11 = ((if i1 = 0 then i2 else (V_107 h vd)) : Int32)), mx_wp (d + 5) 170 22 [some (.ref 100), some (.int i1), some (.int i2), some (.int (V_107 h vd))] [.int v11] h Q := by
        intro v11 ev11
        have H := H v11 ev11
        exact wp_end (o := .inl (some (.int v11))) (h' := h) (P := True) rfl rfl trivial H
      refine wp_br (P := True) (c := i1 = 0) (t := 21) (st' := []) rfl rfl trivial (fun c12 => ?_) (fun c12 => ?_)
      · skip
        refine wp_steps (i' := 22) (ls' := [some (.ref 100), some (.int i1), some (.int i2), some (.int (V_107 h vd))]) (st' := [.int i2]) (h' := h) (P := True) 1 rfl rfl trivial ?_
        exact J _ (by rw [if_pos c12])
      · skip
        refine wp_steps (i' := 20) (ls' := [some (.ref 100), some (.int i1), some (.int i2), some (.int (V_107 h vd))]) (st' := [.int (V_107 h vd)]) (h' := h) (P := True) 1 rfl rfl trivial ?_
        refine wp_J (j := 22) (st' := [.int (V_107 h vd)]) rfl rfl ?_
        exact J _ (by rw [if_neg c12])
/-! 175: StoneBacks.goAhead(I)V -/
def H_175_7 (d : Nat) (h : mxH) (i1 : Int32) (i2 : Int32) (Q : mxO → mxH → Prop) : Prop := mx_wp d 175 7 [some (.ref 100), some (.int i1), some (.int i2)] [] h Q
set_option maxRecDepth 8000 in
theorem tr_175_0 {d : Nat} {h : mxH} {Q : mxO → mxH → Prop} {i1 : Int32} {vn vd vr vq : Nat} (G : mxG h) (S : mxS h vn vd vr vq) (H : ((∀ (h2 : mxH), cpR 0 16 vd vn h h2 → H_175_7 (d + 5) h2 i1 0 Q))) : mx_wp (d + 5) 175 0 (mx_fr 175 [.ref 100, .int i1]) [] h Q := by
  show mx_wp (d + 5) 175 0 [some (.ref 100), some (.int i1), none] [] h Q
  refine wp_steps (i' := 2) (ls' := [some (.ref 100), some (.int i1), none]) (st' := [.ref (mx_r h 100 5)]) (h' := h) (P := ((mxT 100).1 = 10 ∧ mxG h) ∧ True) 2 rfl rfl ⟨⟨(congrArg Prod.fst sT_100), G⟩, trivial⟩ ?_
  rw [mxS_5 S]
  refine wp_steps (i' := 4) (ls' := [some (.ref 100), some (.int i1), none]) (st' := [.ref (mx_r h 100 4), .ref vd]) (h' := h) (P := ((mxT 100).1 = 10 ∧ mxG h) ∧ True) 2 rfl rfl ⟨⟨(congrArg Prod.fst sT_100), G⟩, trivial⟩ ?_
  rw [mxS_4 S]
  refine wp_call (b := false) (y' := 103) (as := [.ref vd, .ref vn]) (rest := []) (P := ((mxT vd).1 = mxRc 103 ∧ mxG h)) rfl (by with_unfolding_all rfl) ⟨(congrArg Prod.fst (sV_0 (mxS_vd S))), G⟩ (Nat.le_of_ble_eq_true rfl) (sp_103 G (mxS_vd S) (mxS_vn S) ?_)
  intro h2 p3
  show mx_wp (d + 5) 175 5 [some (.ref 100), some (.int i1), none] [] h2 Q
  have H := H h2 p3
  have G4 : mxG h2 := mxU_G p3.1 G
  have S5 := mxS_of (mxU_r p3.1) S
  refine wp_steps (i' := 7) (ls' := [some (.ref 100), some (.int i1), some (.int 0)]) (st' := []) (h' := h2) (P := True) 2 rfl rfl trivial ?_
  exact H 
set_option maxRecDepth 8000 in
theorem tr_175_7 {d : Nat} {h : mxH} {Q : mxO → mxH → Prop} {vn vd vr vq : Nat} {i1 : Int32} {i2 : Int32} (G : mxG h) (S : mxS h vn vd vr vq) (H : ((i2 < i1 → (okH0 h vd vr ∧ (∀ (x3 : Int32) (h4 : mxH), p110 vd vr (0 : Int32) h x3 h4 → H_175_7 (d + 5) h4 i1 (i2 + 1) Q))) ∧ (¬ i2 < i1 → Q (.inl none) h))) : H_175_7 (d + 5) h i1 i2 Q := by
  show mx_wp (d + 5) 175 7 [some (.ref 100), some (.int i1), some (.int i2)] [] h Q
  refine wp_steps (i' := 9) (ls' := [some (.ref 100), some (.int i1), some (.int i2)]) (st' := [.int i1, .int i2]) (h' := h) (P := True) 2 rfl rfl trivial ?_
  refine wp_br (P := True) (c := i1 ≤ i2) (t := 19) (st' := []) rfl rfl trivial (fun c1 => ?_) (fun c1 => ?_)
  · have c1 := Int32.not_lt.mpr c1
    have H := H.2 c1
    exact wp_end (o := .inl none) (h' := h) (P := True) rfl rfl trivial H
  · have c1 := Int32.not_le.mp c1
    have H := H.1 c1
    refine wp_steps (i' := 12) (ls' := [some (.ref 100), some (.int i1), some (.int i2)]) (st' := [.ref (mx_r h 100 5)]) (h' := h) (P := ((mxT 100).1 = 10 ∧ mxG h) ∧ True) 2 rfl rfl ⟨⟨(congrArg Prod.fst sT_100), G⟩, trivial⟩ ?_
    rw [mxS_5 S]
    refine wp_steps (i' := 14) (ls' := [some (.ref 100), some (.int i1), some (.int i2)]) (st' := [.ref (mx_r h 100 6), .ref vd]) (h' := h) (P := ((mxT 100).1 = 10 ∧ mxG h) ∧ True) 2 rfl rfl ⟨⟨(congrArg Prod.fst sT_100), G⟩, trivial⟩ ?_
    rw [mxS_6 S]
    refine wp_steps (i' := 15) (ls' := [some (.ref 100), some (.int i1), some (.int i2)]) (st' := [.int 0, .ref vr, .ref vd]) (h' := h) (P := True) 1 rfl rfl trivial ?_
    obtain ⟨o2, H⟩ := H
    refine wp_call (b := false) (y' := 110) (as := [.ref vd, .ref vr, .int 0]) (rest := []) (P := ((mxT vd).1 = mxRc 110 ∧ mxG h)) rfl (by with_unfolding_all rfl) ⟨(congrArg Prod.fst (sV_0 (mxS_vd S))), G⟩ (Nat.le_of_ble_eq_true rfl) (sp_110 G (mxS_vd S) (mxS_vr S) o2 ?_)
    intro x3 h4 p5
    show mx_wp (d + 5) 175 16 [some (.ref 100), some (.int i1), some (.int i2)] [.int x3] h4 Q
    have H := H x3 h4 p5
    have G6 : mxG h4 := mxU_G p5.1 G
    have S7 := mxS_of (mxU_r p5.1) S
    refine wp_steps (i' := 18) (ls' := [some (.ref 100), some (.int i1), some (.int (i2 + 1))]) (st' := []) (h' := h4) (P := True) 2 rfl rfl trivial ?_
    refine wp_J (j := 7) (st' := []) rfl rfl ?_
    exact H 
/-! 176: StoneBacks.tryHours(II)V -/
def H_176_11 (d : Nat) (h : mxH) (i1 : Int32) (i3 : Int32) (Q : mxO → mxH → Prop) : Prop := ∀ (w2 : Option Value), mx_wp d 176 11 [some (.ref 100), some (.int i1), w2, some (.int i3)] [] h Q
set_option maxRecDepth 8000 in
theorem tr_176_0 {d : Nat} {h : mxH} {Q : mxO → mxH → Prop} {i1 : Int32} {i2 : Int32} {vn vd vr vq : Nat} (G : mxG h) (S : mxS h vn vd vr vq) (H : ((∀ (h2 : mxH), cpR 0 16 vd vn h h2 → (∀ h6, h6 = mx_wi h2 vd 7 i2 → H_176_11 (d + 5) h6 i1 0 Q)))) : mx_wp (d + 5) 176 0 (mx_fr 176 [.ref 100, .int i1, .int i2]) [] h Q := by
  show mx_wp (d + 5) 176 0 [some (.ref 100), some (.int i1), some (.int i2), none] [] h Q
  refine wp_steps (i' := 2) (ls' := [some (.ref 100), some (.int i1), some (.int i2), none]) (st' := [.ref (mx_r h 100 5)]) (h' := h) (P := ((mxT 100).1 = 10 ∧ mxG h) ∧ True) 2 rfl rfl ⟨⟨(congrArg Prod.fst sT_100), G⟩, trivial⟩ ?_
  rw [mxS_5 S]
  refine wp_steps (i' := 4) (ls' := [some (.ref 100), some (.int i1), some (.int i2), none]) (st' := [.ref (mx_r h 100 4), .ref vd]) (h' := h) (P := ((mxT 100).1 = 10 ∧ mxG h) ∧ True) 2 rfl rfl ⟨⟨(congrArg Prod.fst sT_100), G⟩, trivial⟩ ?_
  rw [mxS_4 S]
  refine wp_call (b := false) (y' := 103) (as := [.ref vd, .ref vn]) (rest := []) (P := ((mxT vd).1 = mxRc 103 ∧ mxG h)) rfl (by with_unfolding_all rfl) ⟨(congrArg Prod.fst (sV_0 (mxS_vd S))), G⟩ (Nat.le_of_ble_eq_true rfl) (sp_103 G (mxS_vd S) (mxS_vn S) ?_)
  intro h2 p3
  show mx_wp (d + 5) 176 5 [some (.ref 100), some (.int i1), some (.int i2), none] [] h2 Q
  have H := H h2 p3
  have G4 : mxG h2 := mxU_G p3.1 G
  have S5 := mxS_of (mxU_r p3.1) S
  refine wp_steps (i' := 7) (ls' := [some (.ref 100), some (.int i1), some (.int i2), none]) (st' := [.ref (mx_r h2 100 5)]) (h' := h2) (P := ((mxT 100).1 = 10 ∧ mxG h2) ∧ True) 2 rfl rfl ⟨⟨(congrArg Prod.fst sT_100), G4⟩, trivial⟩ ?_
  rw [mxS_5 S5]
  refine wp_steps (i' := 9) (ls' := [some (.ref 100), some (.int i1), some (.int i2), none]) (st' := []) (h' := mx_wi h2 vd 7 i2) (P := ((mxT vd).1 = 9 ∧ mxG h2) ∧ True) 2 rfl rfl ⟨⟨(congrArg Prod.fst (sV_0 (mxS_vd S))), G4⟩, trivial⟩ ?_
  obtain ⟨h6, e7⟩ : ∃ z9, z9 = mx_wi h2 vd 7 i2 := ⟨_, rfl⟩
  rw [← e7]
  have H := H h6 e7
  have G8 : mxG h6 := e7 ▸ mxG_wi G4
  have S9 := e7 ▸ mxS_wi S5
  refine wp_steps (i' := 11) (ls' := [some (.ref 100), some (.int i1), some (.int i2), some (.int 0)]) (st' := []) (h' := h6) (P := True) 2 rfl rfl trivial ?_
  exact H _
set_option maxRecDepth 8000 in
theorem tr_176_11 {d : Nat} {h : mxH} {Q : mxO → mxH → Prop} {vn vd vr vq : Nat} {i1 : Int32} {i3 : Int32} (G : mxG h) (S : mxS h vn vd vr vq) (H : ((i3 < i1 → (okH0 h vd vr ∧ (∀ (x3 : Int32) (h4 : mxH), p110 vd vr (1 : Int32) h x3 h4 → H_176_11 (d + 5) h4 i1 (i3 + 1) Q))) ∧ (¬ i3 < i1 → Q (.inl none) h))) : H_176_11 (d + 5) h i1 i3 Q := by
  intro w2
  show mx_wp (d + 5) 176 11 [some (.ref 100), some (.int i1), w2, some (.int i3)] [] h Q
  refine wp_steps (i' := 13) (ls' := [some (.ref 100), some (.int i1), w2, some (.int i3)]) (st' := [.int i1, .int i3]) (h' := h) (P := True) 2 rfl rfl trivial ?_
  refine wp_br (P := True) (c := i1 ≤ i3) (t := 23) (st' := []) rfl rfl trivial (fun c1 => ?_) (fun c1 => ?_)
  · have c1 := Int32.not_lt.mpr c1
    have H := H.2 c1
    exact wp_end (o := .inl none) (h' := h) (P := True) rfl rfl trivial H
  · have c1 := Int32.not_le.mp c1
    have H := H.1 c1
    refine wp_steps (i' := 16) (ls' := [some (.ref 100), some (.int i1), w2, some (.int i3)]) (st' := [.ref (mx_r h 100 5)]) (h' := h) (P := ((mxT 100).1 = 10 ∧ mxG h) ∧ True) 2 rfl rfl ⟨⟨(congrArg Prod.fst sT_100), G⟩, trivial⟩ ?_
    rw [mxS_5 S]
    refine wp_steps (i' := 18) (ls' := [some (.ref 100), some (.int i1), w2, some (.int i3)]) (st' := [.ref (mx_r h 100 6), .ref vd]) (h' := h) (P := ((mxT 100).1 = 10 ∧ mxG h) ∧ True) 2 rfl rfl ⟨⟨(congrArg Prod.fst sT_100), G⟩, trivial⟩ ?_
    rw [mxS_6 S]
    refine wp_steps (i' := 19) (ls' := [some (.ref 100), some (.int i1), w2, some (.int i3)]) (st' := [.int 1, .ref vr, .ref vd]) (h' := h) (P := True) 1 rfl rfl trivial ?_
    obtain ⟨o2, H⟩ := H
    refine wp_call (b := false) (y' := 110) (as := [.ref vd, .ref vr, .int 1]) (rest := []) (P := ((mxT vd).1 = mxRc 110 ∧ mxG h)) rfl (by with_unfolding_all rfl) ⟨(congrArg Prod.fst (sV_0 (mxS_vd S))), G⟩ (Nat.le_of_ble_eq_true rfl) (sp_110 G (mxS_vd S) (mxS_vr S) o2 ?_)
    intro x3 h4 p5
    show mx_wp (d + 5) 176 20 [some (.ref 100), some (.int i1), w2, some (.int i3)] [.int x3] h4 Q
    have H := H x3 h4 p5
    have G6 : mxG h4 := mxU_G p5.1 G
    have S7 := mxS_of (mxU_r p5.1) S
    refine wp_steps (i' := 22) (ls' := [some (.ref 100), some (.int i1), w2, some (.int (i3 + 1))]) (st' := []) (h' := h4) (P := True) 2 rfl rfl trivial ?_
    refine wp_J (j := 11) (st' := []) rfl rfl ?_
    exact H _
/-! 240: StoneBacksModel.walks(I)V -/
set_option maxRecDepth 8000 in
theorem tr_240_0 {d : Nat} {h : mxH} {Q : mxO → mxH → Prop} {i1 : Int32} (G : mxG h)  (H : (vp_in ((33 + (6 * i1)) + (2 : Int32)) 769 ∧ (vp_in ((33 + (6 * i1)) + (3 : Int32)) 769 ∧ (∀ (v3 : Int32), v3 = ((if (V_196 (mx_i h 382) i1 (2 : Int32)) < (V_196 (mx_i h 382) i1 (3 : Int32)) then ((V_196 (mx_i h 382) i1 (2 : Int32)) + 1) else ((V_196 (mx_i h 382) i1 (2 : Int32)) - 1)) : Int32) → (((V_196 (mx_i h 382) i1 (2 : Int32)) = (V_196 (mx_i h 382) i1 (3 : Int32)) → (okQ h i1 ∧ (∀ (h16 : mxH), p237 i1 h h16 → (vp_in ((33 + (6 * i1)) + (0 : Int32)) 769 ∧ (∀ h20, h20 = W_197 h16 i1 (0 : Int32) (V_192 (mx_i h16 382) (9999 : Int32) ((V_196 (mx_i h16 382) i1 (0 : Int32)) + (mx_i h16 381 18))) → Q (.inl none) h20))))) ∧ (¬ (V_196 (mx_i h 382) i1 (2 : Int32)) = (V_196 (mx_i h 382) i1 (3 : Int32)) → (cB (mx_i h 382 4) 10 ∧ vp_in ((33 + (6 * i1)) + (1 : Int32)) 769 ∧ (((V_196 (mx_i h 382) i1 (1 : Int32)) < (V_205 (mx_i h 382) i1) → True) ∧ (¬ (V_196 (mx_i h 382) i1 (1 : Int32)) < (V_205 (mx_i h 382) i1) → (vp_in ((33 + (6 * i1)) + (4 : Int32)) 769 ∧ (((V_196 (mx_i h 382) i1 (4 : Int32)) = 99 → True) ∧ (¬ (V_196 (mx_i h 382) i1 (4 : Int32)) = 99 → (vp_in ((33 + (6 * i1)) + (5 : Int32)) 769 ∧ True)))))) ∧ (((V_206 (mx_i h 382) i1) = 0 → (((V_239 (mx_i h 382) (V_205 (mx_i h 382) i1) (V_196 (mx_i h 382) i1 (2 : Int32)) v3) = 0 → Q (.inl none) h) ∧ (¬ (V_239 (mx_i h 382) (V_205 (mx_i h 382) i1) (V_196 (mx_i h 382) i1 (2 : Int32)) v3) = 0 → (∀ h10, h10 = W_197 h i1 (2 : Int32) v3 → Q (.inl none) h10)))) ∧ (¬ (V_206 (mx_i h 382) i1) = 0 → Q (.inl none) h))))))))) : mx_wp (d + 34) 240 0 (mx_fr 240 [.ref 381, .int i1]) [] h Q := by
  show mx_wp (d + 34) 240 0 [some (.ref 381), some (.int i1), none, none] [] h Q
  refine wp_steps (i' := 3) (ls' := [some (.ref 381), some (.int i1), none, none]) (st' := [.int 2, .int i1, .ref 381]) (h' := h) (P := True) 3 rfl rfl trivial ?_
  obtain ⟨o1, H⟩ := H
  refine wp_call (b := false) (y' := 196) (as := [.ref 381, .int i1, .int 2]) (rest := []) (P := ((mxT 381).1 = mxRc 196 ∧ mxG h)) rfl (by with_unfolding_all rfl) ⟨(congrArg Prod.fst sT_381), G⟩ (Nat.le_of_ble_eq_true rfl) (sp_196 G o1 ?_)
  show mx_wp (d + 34) 240 4 [some (.ref 381), some (.int i1), none, none] [.int (V_196 (mx_i h 382) i1 (2 : Int32))] h Q
  refine wp_steps (i' := 9) (ls' := [some (.ref 381), some (.int i1), some (.int (V_196 (mx_i h 382) i1 (2 : Int32))), none]) (st' := [.int 3, .int i1, .ref 381, .int (V_196 (mx_i h 382) i1 (2 : Int32))]) (h' := h) (P := True) 5 rfl rfl trivial ?_
  obtain ⟨o2, H⟩ := H
  refine wp_call (b := false) (y' := 196) (as := [.ref 381, .int i1, .int 3]) (rest := [.int (V_196 (mx_i h 382) i1 (2 : Int32))]) (P := ((mxT 381).1 = mxRc 196 ∧ mxG h)) rfl (by with_unfolding_all rfl) ⟨(congrArg Prod.fst sT_381), G⟩ (Nat.le_of_ble_eq_true rfl) (sp_196 G o2 ?_)
  show mx_wp (d + 34) 240 10 [some (.ref 381), some (.int i1), some (.int (V_196 (mx_i h 382) i1 (2 : Int32))), none] [.int (V_196 (mx_i h 382) i1 (3 : Int32)), .int (V_196 (mx_i h 382) i1 (2 : Int32))] h Q
  have J : ∀ (v3 : Int32) (ev3 : v3 = ((if (V_196 (mx_i h 382) i1 (2 : Int32)) < (V_196 (mx_i h 382) i1 (3 : Int32)) then ((V_196 (mx_i h 382) i1 (2 : Int32)) + 1) else ((V_196 (mx_i h 382) i1 (2 : Int32)) - 1)) : Int32)), mx_wp (d + 34) 240 18 [some (.ref 381), some (.int i1), some (.int (V_196 (mx_i h 382) i1 (2 : Int32))), none] [.int v3] h Q := by
    intro v3 ev3
    have H := H v3 ev3
    refine wp_steps (i' := 23) (ls' := [some (.ref 381), some (.int i1), some (.int (V_196 (mx_i h 382) i1 (2 : Int32))), some (.int v3)]) (st' := [.int 3, .int i1, .ref 381, .int (V_196 (mx_i h 382) i1 (2 : Int32))]) (h' := h) (P := True) 5 rfl rfl trivial ?_
    refine wp_call (b := false) (y' := 196) (as := [.ref 381, .int i1, .int 3]) (rest := [.int (V_196 (mx_i h 382) i1 (2 : Int32))]) (P := ((mxT 381).1 = mxRc 196 ∧ mxG h)) rfl (by with_unfolding_all rfl) ⟨(congrArg Prod.fst sT_381), G⟩ (Nat.le_of_ble_eq_true rfl) (sp_196 G o2 ?_)
    show mx_wp (d + 34) 240 24 [some (.ref 381), some (.int i1), some (.int (V_196 (mx_i h 382) i1 (2 : Int32))), some (.int v3)] [.int (V_196 (mx_i h 382) i1 (3 : Int32)), .int (V_196 (mx_i h 382) i1 (2 : Int32))] h Q
    refine wp_br (P := True) (c := ¬ (V_196 (mx_i h 382) i1 (2 : Int32)) = (V_196 (mx_i h 382) i1 (3 : Int32))) (t := 42) (st' := []) rfl rfl trivial (fun c4 => ?_) (fun c4 => ?_)
    · skip
      have H := H.2 c4
      refine wp_steps (i' := 44) (ls' := [some (.ref 381), some (.int i1), some (.int (V_196 (mx_i h 382) i1 (2 : Int32))), some (.int v3)]) (st' := [.int i1, .ref 381]) (h' := h) (P := True) 2 rfl rfl trivial ?_
      obtain ⟨o5, o6, o7, H⟩ := H
      refine wp_call (b := false) (y' := 206) (as := [.ref 381, .int i1]) (rest := []) (P := ((mxT 381).1 = mxRc 206 ∧ mxG h)) rfl (by with_unfolding_all rfl) ⟨(congrArg Prod.fst sT_381), G⟩ (Nat.le_of_ble_eq_true rfl) (sp_206 G o5 o6 o7 ?_)
      show mx_wp (d + 34) 240 45 [some (.ref 381), some (.int i1), some (.int (V_196 (mx_i h 382) i1 (2 : Int32))), some (.int v3)] [.int (V_206 (mx_i h 382) i1)] h Q
      refine wp_br (P := True) (c := ¬ (V_206 (mx_i h 382) i1) = 0) (t := 59) (st' := []) rfl rfl trivial (fun c8 => ?_) (fun c8 => ?_)
      · skip
        have H := H.2 c8
        exact wp_end (o := .inl none) (h' := h) (P := True) rfl rfl trivial H
      · have c8 := Decidable.of_not_not c8
        have H := H.1 c8
        refine wp_steps (i' := 49) (ls' := [some (.ref 381), some (.int i1), some (.int (V_196 (mx_i h 382) i1 (2 : Int32))), some (.int v3)]) (st' := [.int i1, .ref 381, .ref 381]) (h' := h) (P := True) 3 rfl rfl trivial ?_
        refine wp_call (b := false) (y' := 205) (as := [.ref 381, .int i1]) (rest := [.ref 381]) (P := ((mxT 381).1 = mxRc 205 ∧ mxG h)) rfl (by with_unfolding_all rfl) ⟨(congrArg Prod.fst sT_381), G⟩ (Nat.le_of_ble_eq_true rfl) (sp_205 G o5 ?_)
        show mx_wp (d + 34) 240 50 [some (.ref 381), some (.int i1), some (.int (V_196 (mx_i h 382) i1 (2 : Int32))), some (.int v3)] [.int (V_205 (mx_i h 382) i1), .ref 381] h Q
        refine wp_steps (i' := 52) (ls' := [some (.ref 381), some (.int i1), some (.int (V_196 (mx_i h 382) i1 (2 : Int32))), some (.int v3)]) (st' := [.int v3, .int (V_196 (mx_i h 382) i1 (2 : Int32)), .int (V_205 (mx_i h 382) i1), .ref 381]) (h' := h) (P := True) 2 rfl rfl trivial ?_
        refine wp_call (b := false) (y' := 239) (as := [.ref 381, .int (V_205 (mx_i h 382) i1), .int (V_196 (mx_i h 382) i1 (2 : Int32)), .int v3]) (rest := []) (P := ((mxT 381).1 = mxRc 239 ∧ mxG h)) rfl (by with_unfolding_all rfl) ⟨(congrArg Prod.fst sT_381), G⟩ (Nat.le_of_ble_eq_true rfl) (sp_239 G ?_)
        show mx_wp (d + 34) 240 53 [some (.ref 381), some (.int i1), some (.int (V_196 (mx_i h 382) i1 (2 : Int32))), some (.int v3)] [.int (V_239 (mx_i h 382) (V_205 (mx_i h 382) i1) (V_196 (mx_i h 382) i1 (2 : Int32)) v3)] h Q
        refine wp_br (P := True) (c := (V_239 (mx_i h 382) (V_205 (mx_i h 382) i1) (V_196 (mx_i h 382) i1 (2 : Int32)) v3) = 0) (t := 59) (st' := []) rfl rfl trivial (fun c9 => ?_) (fun c9 => ?_)
        · skip
          have H := H.1 c9
          exact wp_end (o := .inl none) (h' := h) (P := True) rfl rfl trivial H
        · skip
          have H := H.2 c9
          refine wp_steps (i' := 58) (ls' := [some (.ref 381), some (.int i1), some (.int (V_196 (mx_i h 382) i1 (2 : Int32))), some (.int v3)]) (st' := [.int v3, .int 2, .int i1, .ref 381]) (h' := h) (P := True) 4 rfl rfl trivial ?_
          refine wp_call (b := false) (y' := 197) (as := [.ref 381, .int i1, .int 2, .int v3]) (rest := []) (P := ((mxT 381).1 = mxRc 197 ∧ mxG h)) rfl (by with_unfolding_all rfl) ⟨(congrArg Prod.fst sT_381), G⟩ (Nat.le_of_ble_eq_true rfl) (sp_197 G o1 ?_)
          show mx_wp (d + 34) 240 59 [some (.ref 381), some (.int i1), some (.int (V_196 (mx_i h 382) i1 (2 : Int32))), some (.int v3)] [] (W_197 h i1 (2 : Int32) v3) Q
          obtain ⟨h10, e11⟩ : ∃ z9, z9 = W_197 h i1 (2 : Int32) v3 := ⟨_, rfl⟩
          rw [← e11]
          have H := H h10 e11
          have K13 : mxK h h10 := e11 ▸ KW_197
          have G12 : mxG h10 := mxK_G K13 G
          exact wp_end (o := .inl none) (h' := h10) (P := True) rfl rfl trivial H
    · have c4 := Decidable.of_not_not c4
      have H := H.1 c4
      refine wp_steps (i' := 27) (ls' := [some (.ref 381), some (.int i1), some (.int (V_196 (mx_i h 382) i1 (2 : Int32))), some (.int v3)]) (st' := [.int i1, .ref 381]) (h' := h) (P := True) 2 rfl rfl trivial ?_
      obtain ⟨o14, H⟩ := H
      refine wp_call (b := false) (y' := 237) (as := [.ref 381, .int i1]) (rest := []) (P := ((mxT 381).1 = mxRc 237 ∧ mxG h)) rfl (by with_unfolding_all rfl) ⟨(congrArg Prod.fst sT_381), G⟩ (Nat.le_of_ble_eq_true rfl) (sp_237 G o14 ?_)
      intro h16 p17
      show mx_wp (d + 34) 240 28 [some (.ref 381), some (.int i1), some (.int (V_196 (mx_i h 382) i1 (2 : Int32))), some (.int v3)] [] h16 Q
      have H := H h16 p17
      have G18 : mxG h16 := mxK_G p17.1.1 G
      refine wp_steps (i' := 35) (ls' := [some (.ref 381), some (.int i1), some (.int (V_196 (mx_i h 382) i1 (2 : Int32))), some (.int v3)]) (st' := [.int 0, .int i1, .ref 381, .int 9999, .int 0, .int i1, .ref 381]) (h' := h16) (P := True) 7 rfl rfl trivial ?_
      obtain ⟨o19, H⟩ := H
      refine wp_call (b := false) (y' := 196) (as := [.ref 381, .int i1, .int 0]) (rest := [.int 9999, .int 0, .int i1, .ref 381]) (P := ((mxT 381).1 = mxRc 196 ∧ mxG h16)) rfl (by with_unfolding_all rfl) ⟨(congrArg Prod.fst sT_381), G18⟩ (Nat.le_of_ble_eq_true rfl) (sp_196 G18 o19 ?_)
      show mx_wp (d + 34) 240 36 [some (.ref 381), some (.int i1), some (.int (V_196 (mx_i h 382) i1 (2 : Int32))), some (.int v3)] [.int (V_196 (mx_i h16 382) i1 (0 : Int32)), .int 9999, .int 0, .int i1, .ref 381] h16 Q
      refine wp_steps (i' := 39) (ls' := [some (.ref 381), some (.int i1), some (.int (V_196 (mx_i h 382) i1 (2 : Int32))), some (.int v3)]) (st' := [.int ((V_196 (mx_i h16 382) i1 (0 : Int32)) + (mx_i h16 381 18)), .int 9999, .int 0, .int i1, .ref 381]) (h' := h16) (P := ((mxT 381).1 = 11 ∧ mxG h16) ∧ True) 3 rfl rfl ⟨⟨(congrArg Prod.fst sT_381), G18⟩, trivial⟩ ?_
      refine wp_call (b := false) (y' := 192) (as := [.int 9999, .int ((V_196 (mx_i h16 382) i1 (0 : Int32)) + (mx_i h16 381 18))]) (rest := [.int 0, .int i1, .ref 381]) (P := True) rfl (by with_unfolding_all rfl) trivial (Nat.le_of_ble_eq_true rfl) (sp_192 G18 ?_)
      show mx_wp (d + 34) 240 40 [some (.ref 381), some (.int i1), some (.int (V_196 (mx_i h 382) i1 (2 : Int32))), some (.int v3)] [.int (V_192 (mx_i h16 382) (9999 : Int32) ((V_196 (mx_i h16 382) i1 (0 : Int32)) + (mx_i h16 381 18))), .int 0, .int i1, .ref 381] h16 Q
      refine wp_call (b := false) (y' := 197) (as := [.ref 381, .int i1, .int 0, .int (V_192 (mx_i h16 382) (9999 : Int32) ((V_196 (mx_i h16 382) i1 (0 : Int32)) + (mx_i h16 381 18)))]) (rest := []) (P := ((mxT 381).1 = mxRc 197 ∧ mxG h16)) rfl (by with_unfolding_all rfl) ⟨(congrArg Prod.fst sT_381), G18⟩ (Nat.le_of_ble_eq_true rfl) (sp_197 G18 o19 ?_)
      show mx_wp (d + 34) 240 41 [some (.ref 381), some (.int i1), some (.int (V_196 (mx_i h 382) i1 (2 : Int32))), some (.int v3)] [] (W_197 h16 i1 (0 : Int32) (V_192 (mx_i h16 382) (9999 : Int32) ((V_196 (mx_i h16 382) i1 (0 : Int32)) + (mx_i h16 381 18)))) Q
      obtain ⟨h20, e21⟩ : ∃ z9, z9 = W_197 h16 i1 (0 : Int32) (V_192 (mx_i h16 382) (9999 : Int32) ((V_196 (mx_i h16 382) i1 (0 : Int32)) + (mx_i h16 381 18))) := ⟨_, rfl⟩
      rw [← e21]
      have H := H h20 e21
      have K23 : mxK h16 h20 := e21 ▸ KW_197
      have G22 : mxG h20 := mxK_G K23 G18
      refine wp_J (j := 59) (st' := []) rfl rfl ?_
      exact wp_end (o := .inl none) (h' := h20) (P := True) rfl rfl trivial H
  refine wp_br (P := True) (c := (V_196 (mx_i h 382) i1 (3 : Int32)) ≤ (V_196 (mx_i h 382) i1 (2 : Int32))) (t := 15) (st' := []) rfl rfl trivial (fun c24 => ?_) (fun c24 => ?_)
  · have c24 := Int32.not_lt.mpr c24
    refine wp_steps (i' := 18) (ls' := [some (.ref 381), some (.int i1), some (.int (V_196 (mx_i h 382) i1 (2 : Int32))), none]) (st' := [.int ((V_196 (mx_i h 382) i1 (2 : Int32)) - 1)]) (h' := h) (P := True) 3 rfl rfl trivial ?_
    exact J _ (by rw [if_neg c24])
  · have c24 := Int32.not_le.mp c24
    refine wp_steps (i' := 14) (ls' := [some (.ref 381), some (.int i1), some (.int (V_196 (mx_i h 382) i1 (2 : Int32))), none]) (st' := [.int ((V_196 (mx_i h 382) i1 (2 : Int32)) + 1)]) (h' := h) (P := True) 3 rfl rfl trivial ?_
    refine wp_J (j := 18) (st' := [.int ((V_196 (mx_i h 382) i1 (2 : Int32)) + 1)]) rfl rfl ?_
    exact J _ (by rw [if_pos c24])
/-! 245: StoneBacksModel.does(II)I -/
set_option maxRecDepth 8000 in
theorem tr_245_0 {d : Nat} {h : mxH} {Q : mxO → mxH → Prop} {i1 : Int32} {i2 : Int32} (G : mxG h)  (H : (((V_191 (mx_i h 382) i1 (0 : Int32) ((mx_i h 382 3) - 1)) = 0 ∨ (V_191 (mx_i h 382) i1 (0 : Int32) ((mx_i h 382 3) - 1)) = 1) ∧ (∀ (v2 : Int32), v2 = ((if (V_200 (mx_i h 382) i1) = 0 then 1 else (if (V_191 (mx_i h 382) i2 (0 : Int32) (2 : Int32)) = 0 then 2 else 0)) : Int32) → (∀ h3, h3 = mx_wi h 381 0 v2 → ((0 < (mx_i h3 381 0) → Q (.inl (some (.int 0))) h3) ∧ (¬ 0 < (mx_i h3 381 0) → (okQ h3 i1 ∧ (∀ (h9 : mxH), p237 i1 h3 h9 → (∀ (v12 : Int32), v12 = ((if i2 = 0 then (mx_i h9 381 17) else (if i2 = 1 then (mx_i h9 381 18) else (if (mx_i h9 382 1) = (-1) then (mx_i h9 381 19) else (V_192 (mx_i h9 382) (100 : Int32) (mx_i h9 381 19))))) : Int32) → Q (.inl (some (.int v12))) h9))))))))) : mx_wp (d + 34) 245 0 (mx_fr 245 [.ref 381, .int i1, .int i2]) [] h Q := by
  show mx_wp (d + 34) 245 0 [some (.ref 381), some (.int i1), some (.int i2)] [] h Q
  refine wp_steps (i' := 3) (ls' := [some (.ref 381), some (.int i1), some (.int i2)]) (st' := [.int i1, .ref 381, .ref 381]) (h' := h) (P := True) 3 rfl rfl trivial ?_
  obtain ⟨o1, H⟩ := H
  refine wp_call (b := false) (y' := 200) (as := [.ref 381, .int i1]) (rest := [.ref 381]) (P := ((mxT 381).1 = mxRc 200 ∧ mxG h)) rfl (by with_unfolding_all rfl) ⟨(congrArg Prod.fst sT_381), G⟩ (Nat.le_of_ble_eq_true rfl) (sp_200 G o1 ?_)
  show mx_wp (d + 34) 245 4 [some (.ref 381), some (.int i1), some (.int i2)] [.int (V_200 (mx_i h 382) i1), .ref 381] h Q
  have J : ∀ (v2 : Int32) (ev2 : v2 = ((if (V_200 (mx_i h 382) i1) = 0 then 1 else (if (V_191 (mx_i h 382) i2 (0 : Int32) (2 : Int32)) = 0 then 2 else 0)) : Int32)), mx_wp (d + 34) 245 15 [some (.ref 381), some (.int i1), some (.int i2)] [.int v2, .ref 381] h Q := by
    intro v2 ev2
    have H := H v2 ev2
    refine wp_steps (i' := 16) (ls' := [some (.ref 381), some (.int i1), some (.int i2)]) (st' := []) (h' := mx_wi h 381 0 v2) (P := ((mxT 381).1 = 11 ∧ mxG h) ∧ True) 1 rfl rfl ⟨⟨(congrArg Prod.fst sT_381), G⟩, trivial⟩ ?_
    obtain ⟨h3, e4⟩ : ∃ z9, z9 = mx_wi h 381 0 v2 := ⟨_, rfl⟩
    rw [← e4]
    have H := H h3 e4
    have G5 : mxG h3 := e4 ▸ mxG_wi G
    refine wp_steps (i' := 18) (ls' := [some (.ref 381), some (.int i1), some (.int i2)]) (st' := [.int (mx_i h3 381 0)]) (h' := h3) (P := ((mxT 381).1 = 11 ∧ mxG h3) ∧ True) 2 rfl rfl ⟨⟨(congrArg Prod.fst sT_381), G5⟩, trivial⟩ ?_
    refine wp_br (P := True) (c := (mx_i h3 381 0) ≤ 0) (t := 21) (st' := []) rfl rfl trivial (fun c6 => ?_) (fun c6 => ?_)
    · have c6 := Int32.not_lt.mpr c6
      have H := H.2 c6
      refine wp_steps (i' := 23) (ls' := [some (.ref 381), some (.int i1), some (.int i2)]) (st' := [.int i1, .ref 381]) (h' := h3) (P := True) 2 rfl rfl trivial ?_
      obtain ⟨o7, H⟩ := H
      refine wp_call (b := false) (y' := 237) (as := [.ref 381, .int i1]) (rest := []) (P := ((mxT 381).1 = mxRc 237 ∧ mxG h3)) rfl (by with_unfolding_all rfl) ⟨(congrArg Prod.fst sT_381), G5⟩ (Nat.le_of_ble_eq_true rfl) (sp_237 G5 o7 ?_)
      intro h9 p10
      show mx_wp (d + 34) 245 24 [some (.ref 381), some (.int i1), some (.int i2)] [] h9 Q
      have H := H h9 p10
      have G11 : mxG h9 := mxK_G p10.1.1 G5
      refine wp_steps (i' := 25) (ls' := [some (.ref 381), some (.int i1), some (.int i2)]) (st' := [.int i2]) (h' := h9) (P := True) 1 rfl rfl trivial ?_
      have J : ∀ (v12 : Int32) (ev12 : v12 = ((if i2 = 0 then (mx_i h9 381 17) else (if i2 = 1 then (mx_i h9 381 18) else (if (mx_i h9 382 1) = (-1) then (mx_i h9 381 19) else (V_192 (mx_i h9 382) (100 : Int32) (mx_i h9 381 19))))) : Int32)), mx_wp (d + 34) 245 48 [some (.ref 381), some (.int i1), some (.int i2)] [.int v12] h9 Q := by
        intro v12 ev12
        have H := H v12 ev12
        exact wp_end (o := .inl (some (.int v12))) (h' := h9) (P := True) rfl rfl trivial H
      refine wp_br (P := True) (c := ¬ i2 = 0) (t := 29) (st' := []) rfl rfl trivial (fun c13 => ?_) (fun c13 => ?_)
      · skip
        refine wp_steps (i' := 31) (ls' := [some (.ref 381), some (.int i1), some (.int i2)]) (st' := [.int 1, .int i2]) (h' := h9) (P := True) 2 rfl rfl trivial ?_
        refine wp_br (P := True) (c := ¬ i2 = 1) (t := 35) (st' := []) rfl rfl trivial (fun c14 => ?_) (fun c14 => ?_)
        · skip
          refine wp_steps (i' := 40) (ls' := [some (.ref 381), some (.int i1), some (.int i2)]) (st' := [.int (-1), .int (mx_i h9 382 1)]) (h' := h9) (P := ((mxT 381).1 = 11 ∧ mxG h9) ∧ (((mxT 382).1 = 50 ∧ mxG h9) ∧ vp_in 1 (mxT 382).2) ∧ True) 5 rfl rfl ⟨⟨(congrArg Prod.fst sT_381), G11⟩, (cA sT_382 G11 (vpl rfl)), trivial⟩ ?_
          refine wp_br (P := True) (c := ¬ (mx_i h9 382 1) = (-1)) (t := 44) (st' := []) rfl rfl trivial (fun c15 => ?_) (fun c15 => ?_)
          · skip
            refine wp_steps (i' := 47) (ls' := [some (.ref 381), some (.int i1), some (.int i2)]) (st' := [.int (mx_i h9 381 19), .int 100]) (h' := h9) (P := ((mxT 381).1 = 11 ∧ mxG h9) ∧ True) 3 rfl rfl ⟨⟨(congrArg Prod.fst sT_381), G11⟩, trivial⟩ ?_
            refine wp_call (b := false) (y' := 192) (as := [.int 100, .int (mx_i h9 381 19)]) (rest := []) (P := True) rfl (by with_unfolding_all rfl) trivial (Nat.le_of_ble_eq_true rfl) (sp_192 G11 ?_)
            show mx_wp (d + 34) 245 48 [some (.ref 381), some (.int i1), some (.int i2)] [.int (V_192 (mx_i h9 382) (100 : Int32) (mx_i h9 381 19))] h9 Q
            exact J _ (by rw [if_neg c13, if_neg c14, if_neg c15])
          · have c15 := Decidable.of_not_not c15
            refine wp_steps (i' := 43) (ls' := [some (.ref 381), some (.int i1), some (.int i2)]) (st' := [.int (mx_i h9 381 19)]) (h' := h9) (P := ((mxT 381).1 = 11 ∧ mxG h9) ∧ True) 2 rfl rfl ⟨⟨(congrArg Prod.fst sT_381), G11⟩, trivial⟩ ?_
            refine wp_J (j := 48) (st' := [.int (mx_i h9 381 19)]) rfl rfl ?_
            exact J _ (by rw [if_neg c13, if_neg c14, if_pos c15])
        · have c14 := Decidable.of_not_not c14
          refine wp_steps (i' := 34) (ls' := [some (.ref 381), some (.int i1), some (.int i2)]) (st' := [.int (mx_i h9 381 18)]) (h' := h9) (P := ((mxT 381).1 = 11 ∧ mxG h9) ∧ True) 2 rfl rfl ⟨⟨(congrArg Prod.fst sT_381), G11⟩, trivial⟩ ?_
          refine wp_J (j := 48) (st' := [.int (mx_i h9 381 18)]) rfl rfl ?_
          exact J _ (by rw [if_neg c13, if_pos c14])
      · have c13 := Decidable.of_not_not c13
        refine wp_steps (i' := 28) (ls' := [some (.ref 381), some (.int i1), some (.int i2)]) (st' := [.int (mx_i h9 381 17)]) (h' := h9) (P := ((mxT 381).1 = 11 ∧ mxG h9) ∧ True) 2 rfl rfl ⟨⟨(congrArg Prod.fst sT_381), G11⟩, trivial⟩ ?_
        refine wp_J (j := 48) (st' := [.int (mx_i h9 381 17)]) rfl rfl ?_
        exact J _ (by rw [if_pos c13])
    · have c6 := Int32.not_le.mp c6
      have H := H.1 c6
      refine wp_steps (i' := 20) (ls' := [some (.ref 381), some (.int i1), some (.int i2)]) (st' := [.int 0]) (h' := h3) (P := True) 1 rfl rfl trivial ?_
      exact wp_end (o := .inl (some (.int 0))) (h' := h3) (P := True) rfl rfl trivial H
  refine wp_br (P := True) (c := ¬ (V_200 (mx_i h 382) i1) = 0) (t := 7) (st' := [.ref 381]) rfl rfl trivial (fun c16 => ?_) (fun c16 => ?_)
  · skip
    refine wp_steps (i' := 10) (ls' := [some (.ref 381), some (.int i1), some (.int i2)]) (st' := [.int 2, .int 0, .int i2, .ref 381]) (h' := h) (P := True) 3 rfl rfl trivial ?_
    refine wp_call (b := false) (y' := 191) (as := [.int i2, .int 0, .int 2]) (rest := [.ref 381]) (P := True) rfl (by with_unfolding_all rfl) trivial (Nat.le_of_ble_eq_true rfl) (sp_191 G ?_)
    show mx_wp (d + 34) 245 11 [some (.ref 381), some (.int i1), some (.int i2)] [.int (V_191 (mx_i h 382) i2 (0 : Int32) (2 : Int32)), .ref 381] h Q
    refine wp_br (P := True) (c := ¬ (V_191 (mx_i h 382) i2 (0 : Int32) (2 : Int32)) = 0) (t := 14) (st' := [.ref 381]) rfl rfl trivial (fun c17 => ?_) (fun c17 => ?_)
    · skip
      refine wp_steps (i' := 15) (ls' := [some (.ref 381), some (.int i1), some (.int i2)]) (st' := [.int 0, .ref 381]) (h' := h) (P := True) 1 rfl rfl trivial ?_
      exact J _ (by rw [if_neg c16, if_neg c17])
    · have c17 := Decidable.of_not_not c17
      refine wp_steps (i' := 13) (ls' := [some (.ref 381), some (.int i1), some (.int i2)]) (st' := [.int 2, .ref 381]) (h' := h) (P := True) 1 rfl rfl trivial ?_
      refine wp_J (j := 15) (st' := [.int 2, .ref 381]) rfl rfl ?_
      exact J _ (by rw [if_neg c16, if_pos c17])
  · have c16 := Decidable.of_not_not c16
    refine wp_steps (i' := 6) (ls' := [some (.ref 381), some (.int i1), some (.int i2)]) (st' := [.int 1, .ref 381]) (h' := h) (P := True) 1 rfl rfl trivial ?_
    refine wp_J (j := 15) (st' := [.int 1, .ref 381]) rfl rfl ?_
    exact J _ (by rw [if_pos c16])
