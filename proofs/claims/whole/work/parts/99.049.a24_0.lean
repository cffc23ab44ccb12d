/-! 241: StoneBacksModel.passes(IZ)I -/
def H_241_4 (d : Nat) (h : mxH) (i1 : Int32) (i2 : Int32) (i3 : Int32) (i4 : Int32) (Q : mxO → mxH → Prop) : Prop := ∀ (w5 : Option Value), mx_wp d 241 4 [some (.ref 381), some (.int i1), some (.int i2), some (.int i3), some (.int i4), w5] [] h Q
def H_241_9 (d : Nat) (h : mxH) (i1 : Int32) (i2 : Int32) (i3 : Int32) (i4 : Int32) (i5 : Int32) (Q : mxO → mxH → Prop) : Prop := mx_wp d 241 9 [some (.ref 381), some (.int i1), some (.int i2), some (.int i3), some (.int i4), some (.int i5)] [] h Q
def H_241_22 (d : Nat) (h : mxH) (i1 : Int32) (i2 : Int32) (i3 : Int32) (i4 : Int32) (i5 : Int32) (Q : mxO → mxH → Prop) : Prop := mx_wp d 241 22 [some (.ref 381), some (.int i1), some (.int i2), some (.int i3), some (.int i4), some (.int i5)] [] h Q
set_option maxRecDepth 8000 in
theorem tr_241_0 {d : Nat} {h : mxH} {Q : mxO → mxH → Prop} {i1 : Int32} {i2 : Int32} (G : mxG h)  (H : H_241_4 (d + 35) h i1 i2 0 0 Q) : mx_wp (d + 35) 241 0 (mx_fr 241 [.ref 381, .int i1, .int i2]) [] h Q := by
  show mx_wp (d + 35) 241 0 [some (.ref 381), some (.int i1), some (.int i2), none, none, none] [] h Q
  refine wp_steps (i' := 4) (ls' := [some (.ref 381), some (.int i1), some (.int i2), some (.int 0), some (.int 0), none]) (st' := []) (h' := h) (P := True) 4 rfl rfl trivial ?_
  exact H _
set_option maxRecDepth 8000 in
theorem tr_241_4 {d : Nat} {h : mxH} {Q : mxO → mxH → Prop}  {i1 : Int32} {i2 : Int32} {i3 : Int32} {i4 : Int32} (G : mxG h)  (H : ((i4 < i1 → H_241_9 (d + 35) h i1 i2 i3 i4 0 Q) ∧ (¬ i4 < i1 → Q (.inl (some (.int i3))) h))) : H_241_4 (d + 35) h i1 i2 i3 i4 Q := by
  intro w5
  show mx_wp (d + 35) 241 4 [some (.ref 381), some (.int i1), some (.int i2), some (.int i3), some (.int i4), w5] [] h Q
  refine wp_steps (i' := 6) (ls' := [some (.ref 381), some (.int i1), some (.int i2), some (.int i3), some (.int i4), w5]) (st' := [.int i1, .int i4]) (h' := h) (P := True) 2 rfl rfl trivial ?_
  refine wp_br (P := True) (c := i1 ≤ i4) (t := 99) (st' := []) rfl rfl trivial (fun c1 => ?_) (fun c1 => ?_)
  · have c1 := Int32.not_lt.mpr c1
    have H := H.2 c1
    refine wp_steps (i' := 100) (ls' := [some (.ref 381), some (.int i1), some (.int i2), some (.int i3), some (.int i4), w5]) (st' := [.int i3]) (h' := h) (P := True) 1 rfl rfl trivial ?_
    exact wp_end (o := .inl (some (.int i3))) (h' := h) (P := True) rfl rfl trivial H
  · have c1 := Int32.not_le.mp c1
    have H := H.1 c1
    refine wp_steps (i' := 9) (ls' := [some (.ref 381), some (.int i1), some (.int i2), some (.int i3), some (.int i4), some (.int 0)]) (st' := []) (h' := h) (P := True) 2 rfl rfl trivial ?_
    exact H 
set_option maxRecDepth 8000 in
theorem tr_241_9 {d : Nat} {h : mxH} {Q : mxO → mxH → Prop}  {i1 : Int32} {i2 : Int32} {i3 : Int32} {i4 : Int32} {i5 : Int32} (G : mxG h)  (H : ((i5 < (mx_i h 382 3) → (okQ h i5 ∧ (∀ (h4 : mxH), p240 i5 h h4 → H_241_9 (d + 35) h4 i1 i2 i3 i4 (i5 + 1) Q))) ∧ (¬ i5 < (mx_i h 382 3) → H_241_22 (d + 35) h i1 i2 i3 i4 0 Q))) : H_241_9 (d + 35) h i1 i2 i3 i4 i5 Q := by
  show mx_wp (d + 35) 241 9 [some (.ref 381), some (.int i1), some (.int i2), some (.int i3), some (.int i4), some (.int i5)] [] h Q
  refine wp_steps (i' := 14) (ls' := [some (.ref 381), some (.int i1), some (.int i2), some (.int i3), some (.int i4), some (.int i5)]) (st' := [.int (mx_i h 382 3), .int i5]) (h' := h) (P := ((mxT 381).1 = 11 ∧ mxG h) ∧ (((mxT 382).1 = 50 ∧ mxG h) ∧ vp_in 3 (mxT 382).2) ∧ True) 5 rfl rfl ⟨⟨(congrArg Prod.fst sT_381), G⟩, (cA sT_382 G (vpl rfl)), trivial⟩ ?_
  refine wp_br (P := True) (c := (mx_i h 382 3) ≤ i5) (t := 20) (st' := []) rfl rfl trivial (fun c1 => ?_) (fun c1 => ?_)
  · have c1 := Int32.not_lt.mpr c1
    have H := H.2 c1
    refine wp_steps (i' := 22) (ls' := [some (.ref 381), some (.int i1), some (.int i2), some (.int i3), some (.int i4), some (.int 0)]) (st' := []) (h' := h) (P := True) 2 rfl rfl trivial ?_
    exact H 
  · have c1 := Int32.not_le.mp c1
    have H := H.1 c1
    refine wp_steps (i' := 17) (ls' := [some (.ref 381), some (.int i1), some (.int i2), some (.int i3), some (.int i4), some (.int i5)]) (st' := [.int i5, .ref 381]) (h' := h) (P := True) 2 rfl rfl trivial ?_
    obtain ⟨o2, H⟩ := H
    refine wp_call (b := false) (y' := 240) (as := [.ref 381, .int i5]) (rest := []) (P := ((mxT 381).1 = mxRc 240 ∧ mxG h)) rfl (by with_unfolding_all rfl) ⟨(congrArg Prod.fst sT_381), G⟩ (Nat.le_of_ble_eq_true rfl) (sp_240 G o2 ?_)
    intro h4 p5
    show mx_wp (d + 35) 241 18 [some (.ref 381), some (.int i1), some (.int i2), some (.int i3), some (.int i4), some (.int i5)] [] h4 Q
    have H := H h4 p5
    have G6 : mxG h4 := mxK_G p5.1.1 G
    refine wp_steps (i' := 19) (ls' := [some (.ref 381), some (.int i1), some (.int i2), some (.int i3), some (.int i4), some (.int (i5 + 1))]) (st' := []) (h' := h4) (P := True) 1 rfl rfl trivial ?_
    refine wp_J (j := 9) (st' := []) rfl rfl ?_
    exact H 
set_option maxRecDepth 8000 in
theorem tr_241_22 {d : Nat} {h : mxH} {Q : mxO → mxH → Prop}  {i1 : Int32} {i2 : Int32} {i3 : Int32} {i4 : Int32} {i5 : Int32} (G : mxG h)  (H : ((i5 < (mx_i h 382 3) → (vp_in ((33 + (6 * i5)) + (5 : Int32)) 769 ∧ (((V_196 (mx_i h 382) i5 (5 : Int32)) = 1 → H_241_22 (d + 35) h i1 i2 i3 i4 (i5 + 1) Q) ∧ (¬ (V_196 (mx_i h 382) i5 (5 : Int32)) = 1 → (okQ h i5 ∧ (∀ (h16 : mxH), p237 i5 h h16 → (vp_in ((33 + (6 * i5)) + (4 : Int32)) 769 ∧ (∀ h20, h20 = W_197 h16 i5 (4 : Int32) (V_192 (mx_i h16 382) (99 : Int32) ((V_196 (mx_i h16 382) i5 (4 : Int32)) + (mx_i h16 381 17))) → (okQ h20 i5 ∧ (∀ (h26 : mxH), p237 i5 h20 h26 → ((i2 = 0 → H_241_22 (d + 35) h26 i1 i2 i3 i4 (i5 + 1) Q) ∧ (¬ i2 = 0 → (¬ (100 : Int32) = 0 ∧ (∀ h31, h31 = W_238 h26 (100 : Int32) → (((V_238 h26 (100 : Int32)) < (V_192 (mx_i h31 382) (100 : Int32) (mx_i h31 381 19)) → (∀ h36, h36 = W_197 h31 i5 (5 : Int32) (1 : Int32) → H_241_22 (d + 35) h36 i1 i2 (i3 + 1) i4 (i5 + 1) Q)) ∧ (¬ (V_238 h26 (100 : Int32)) < (V_192 (mx_i h31 382) (100 : Int32) (mx_i h31 381 19)) → H_241_22 (d + 35) h31 i1 i2 i3 i4 (i5 + 1) Q)))))))))))))))) ∧ (¬ i5 < (mx_i h 382 3) → (((mx_i h 382 5) = 9999 → H_241_4 (d + 35) h i1 i2 i3 (i4 + 1) Q) ∧ (¬ (mx_i h 382 5) = 9999 → (∀ h3, h3 = mx_wi h 382 5 ((mx_i h 382 5) + 1) → ((((mx_i h3 382 5) - (mx_i h3 382 5) / 24 * 24) = 0 → (okR h3 ∧ (∀ (h9 : mxH), p242 h3 h9 → H_241_4 (d + 35) h9 i1 i2 i3 (i4 + 1) Q))) ∧ (¬ ((mx_i h3 382 5) - (mx_i h3 382 5) / 24 * 24) = 0 → H_241_4 (d + 35) h3 i1 i2 i3 (i4 + 1) Q)))))))) : H_241_22 (d + 35) h i1 i2 i3 i4 i5 Q := by
  show mx_wp (d + 35) 241 22 [some (.ref 381), some (.int i1), some (.int i2), some (.int i3), some (.int i4), some (.int i5)] [] h Q
  refine wp_steps (i' := 27) (ls' := [some (.ref 381), some (.int i1), some (.int i2), some (.int i3), some (.int i4), some (.int i5)]) (st' := [.int (mx_i h 382 3), .int i5]) (h' := h) (P := ((mxT 381).1 = 11 ∧ mxG h) ∧ (((mxT 382).1 = 50 ∧ mxG h) ∧ vp_in 3 (mxT 382).2) ∧ True) 5 rfl rfl ⟨⟨(congrArg Prod.fst sT_381), G⟩, (cA sT_382 G (vpl rfl)), trivial⟩ ?_
  refine wp_br (P := True) (c := (mx_i h 382 3) ≤ i5) (t := 73) (st' := []) rfl rfl trivial (fun c1 => ?_) (fun c1 => ?_)
  · have c1 := Int32.not_lt.mpr c1
    have H := H.2 c1
    refine wp_steps (i' := 78) (ls' := [some (.ref 381), some (.int i1), some (.int i2), some (.int i3), some (.int i4), some (.int i5)]) (st' := [.int 9999, .int (mx_i h 382 5)]) (h' := h) (P := ((mxT 381).1 = 11 ∧ mxG h) ∧ (((mxT 382).1 = 50 ∧ mxG h) ∧ vp_in 5 (mxT 382).2) ∧ True) 5 rfl rfl ⟨⟨(congrArg Prod.fst sT_381), G⟩, (cA sT_382 G (vpl rfl)), trivial⟩ ?_
    refine wp_br (P := True) (c := ¬ (mx_i h 382 5) = 9999) (t := 80) (st' := []) rfl rfl trivial (fun c2 => ?_) (fun c2 => ?_)
    · skip
      have H := H.2 c2
      refine wp_steps (i' := 88) (ls' := [some (.ref 381), some (.int i1), some (.int i2), some (.int i3), some (.int i4), some (.int i5)]) (st' := []) (h' := mx_wi h 382 5 ((mx_i h 382 5) + 1)) (P := ((mxT 381).1 = 11 ∧ mxG h) ∧ (((mxT 382).1 = 50 ∧ mxG h) ∧ vp_in 5 (mxT 382).2) ∧ (((mxT 382).1 = 50 ∧ mxG h) ∧ vp_in 5 (mxT 382).2) ∧ True) 8 rfl rfl ⟨⟨(congrArg Prod.fst sT_381), G⟩, (cA sT_382 G (vpl rfl)), (cA sT_382 G (vpl rfl)), trivial⟩ ?_
      obtain ⟨h3, e4⟩ : ∃ z9, z9 = mx_wi h 382 5 ((mx_i h 382 5) + 1) := ⟨_, rfl⟩
      rw [← e4]
      have H := H h3 e4
      have G5 : mxG h3 := e4 ▸ mxG_wi G
      refine wp_steps (i' := 94) (ls' := [some (.ref 381), some (.int i1), some (.int i2), some (.int i3), some (.int i4), some (.int i5)]) (st' := [.int ((mx_i h3 382 5) - (mx_i h3 382 5) / 24 * 24)]) (h' := h3) (P := ((mxT 381).1 = 11 ∧ mxG h3) ∧ (((mxT 382).1 = 50 ∧ mxG h3) ∧ vp_in 5 (mxT 382).2) ∧ (¬ (24 : Int32) = 0) ∧ True) 6 rfl rfl ⟨⟨(congrArg Prod.fst sT_381), G5⟩, (cA sT_382 G5 (vpl rfl)), (by decide), trivial⟩ ?_
      refine wp_br (P := True) (c := ¬ ((mx_i h3 382 5) - (mx_i h3 382 5) / 24 * 24) = 0) (t := 97) (st' := []) rfl rfl trivial (fun c6 => ?_) (fun c6 => ?_)
      · skip
        have H := H.2 c6
        refine wp_steps (i' := 98) (ls' := [some (.ref 381), some (.int i1), some (.int i2), some (.int i3), some (.int (i4 + 1)), some (.int i5)]) (st' := []) (h' := h3) (P := True) 1 rfl rfl trivial ?_
        refine wp_J (j := 4) (st' := []) rfl rfl ?_
        exact H _
      · have c6 := Decidable.of_not_not c6
        have H := H.1 c6
        refine wp_steps (i' := 96) (ls' := [some (.ref 381), some (.int i1), some (.int i2), some (.int i3), some (.int i4), some (.int i5)]) (st' := [.ref 381]) (h' := h3) (P := True) 1 rfl rfl trivial ?_
        obtain ⟨o7, H⟩ := H
        refine wp_call (b := false) (y' := 242) (as := [.ref 381]) (rest := []) (P := ((mxT 381).1 = mxRc 242 ∧ mxG h3)) rfl (by with_unfolding_all rfl) ⟨(congrArg Prod.fst sT_381), G5⟩ (Nat.le_of_ble_eq_true rfl) (sp_242 G5 o7 ?_)
        intro h9 p10
        show mx_wp (d + 35) 241 97 [some (.ref 381), some (.int i1), some (.int i2), some (.int i3), some (.int i4), some (.int i5)] [] h9 Q
        have H := H h9 p10
        have G11 : mxG h9 := mxK_G p10.1.1 G5
        refine wp_steps (i' := 98) (ls' := [some (.ref 381), some (.int i1), some (.int i2), some (.int i3), some (.int (i4 + 1)), some (.int i5)]) (st' := []) (h' := h9) (P := True) 1 rfl rfl trivial ?_
        refine wp_J (j := 4) (st' := []) rfl rfl ?_
        exact H _
    · have c2 := Decidable.of_not_not c2
      have H := H.1 c2
      refine wp_J (j := 97) (st' := []) rfl rfl ?_
      refine wp_steps (i' := 98) (ls' := [some (.ref 381), some (.int i1), some (.int i2), some (.int i3), some (.int (i4 + 1)), some (.int i5)]) (st' := []) (h' := h) (P := True) 1 rfl rfl trivial ?_
      refine wp_J (j := 4) (st' := []) rfl rfl ?_
      exact H _
  · have c1 := Int32.not_le.mp c1
    have H := H.1 c1
    refine wp_steps (i' := 31) (ls' := [some (.ref 381), some (.int i1), some (.int i2), some (.int i3), some (.int i4), some (.int i5)]) (st' := [.int 5, .int i5, .ref 381]) (h' := h) (P := True) 3 rfl rfl trivial ?_
    obtain ⟨o12, H⟩ := H
    refine wp_call (b := false) (y' := 196) (as := [.ref 381, .int i5, .int 5]) (rest := []) (P := ((mxT 381).1 = mxRc 196 ∧ mxG h)) rfl (by with_unfolding_all rfl) ⟨(congrArg Prod.fst sT_381), G⟩ (Nat.le_of_ble_eq_true rfl) (sp_196 G o12 ?_)
    show mx_wp (d + 35) 241 32 [some (.ref 381), some (.int i1), some (.int i2), some (.int i3), some (.int i4), some (.int i5)] [.int (V_196 (mx_i h 382) i5 (5 : Int32))] h Q
    refine wp_steps (i' := 33) (ls' := [some (.ref 381), some (.int i1), some (.int i2), some (.int i3), some (.int i4), some (.int i5)]) (st' := [.int 1, .int (V_196 (mx_i h 382) i5 (5 : Int32))]) (h' := h) (P := True) 1 rfl rfl trivial ?_
    refine wp_br (P := True) (c := ¬ (V_196 (mx_i h 382) i5 (5 : Int32)) = 1) (t := 35) (st' := []) rfl rfl trivial (fun c13 => ?_) (fun c13 => ?_)
    · skip
      have H := H.2 c13
      refine wp_steps (i' := 37) (ls' := [some (.ref 381), some (.int i1), some (.int i2), some (.int i3), some (.int i4), some (.int i5)]) (st' := [.int i5, .ref 381]) (h' := h) (P := True) 2 rfl rfl trivial ?_
      obtain ⟨o14, H⟩ := H
      refine wp_call (b := false) (y' := 237) (as := [.ref 381, .int i5]) (rest := []) (P := ((mxT 381).1 = mxRc 237 ∧ mxG h)) rfl (by with_unfolding_all rfl) ⟨(congrArg Prod.fst sT_381), G⟩ (Nat.le_of_ble_eq_true rfl) (sp_237 G o14 ?_)
      intro h16 p17
      show mx_wp (d + 35) 241 38 [some (.ref 381), some (.int i1), some (.int i2), some (.int i3), some (.int i4), some (.int i5)] [] h16 Q
      have H := H h16 p17
      have G18 : mxG h16 := mxK_G p17.1.1 G
      refine wp_steps (i' := 45) (ls' := [some (.ref 381), some (.int i1), some (.int i2), some (.int i3), some (.int i4), some (.int i5)]) (st' := [.int 4, .int i5, .ref 381, .int 99, .int 4, .int i5, .ref 381]) (h' := h16) (P := True) 7 rfl rfl trivial ?_
      obtain ⟨o19, H⟩ := H
      refine wp_call (b := false) (y' := 196) (as := [.ref 381, .int i5, .int 4]) (rest := [.int 99, .int 4, .int i5, .ref 381]) (P := ((mxT 381).1 = mxRc 196 ∧ mxG h16)) rfl (by with_unfolding_all rfl) ⟨(congrArg Prod.fst sT_381), G18⟩ (Nat.le_of_ble_eq_true rfl) (sp_196 G18 o19 ?_)
      show mx_wp (d + 35) 241 46 [some (.ref 381), some (.int i1), some (.int i2), some (.int i3), some (.int i4), some (.int i5)] [.int (V_196 (mx_i h16 382) i5 (4 : Int32)), .int 99, .int 4, .int i5, .ref 381] h16 Q
      refine wp_steps (i' := 49) (ls' := [some (.ref 381), some (.int i1), some (.int i2), some (.int i3), some (.int i4), some (.int i5)]) (st' := [.int ((V_196 (mx_i h16 382) i5 (4 : Int32)) + (mx_i h16 381 17)), .int 99, .int 4, .int i5, .ref 381]) (h' := h16) (P := ((mxT 381).1 = 11 ∧ mxG h16) ∧ True) 3 rfl rfl ⟨⟨(congrArg Prod.fst sT_381), G18⟩, trivial⟩ ?_
      refine wp_call (b := false) (y' := 192) (as := [.int 99, .int ((V_196 (mx_i h16 382) i5 (4 : Int32)) + (mx_i h16 381 17))]) (rest := [.int 4, .int i5, .ref 381]) (P := True) rfl (by with_unfolding_all rfl) trivial (Nat.le_of_ble_eq_true rfl) (sp_192 G18 ?_)
      show mx_wp (d + 35) 241 50 [some (.ref 381), some (.int i1), some (.int i2), some (.int i3), some (.int i4), some (.int i5)] [.int (V_192 (mx_i h16 382) (99 : Int32) ((V_196 (mx_i h16 382) i5 (4 : Int32)) + (mx_i h16 381 17))), .int 4, .int i5, .ref 381] h16 Q
      refine wp_call (b := false) (y' := 197) (as := [.ref 381, .int i5, .int 4, .int (V_192 (mx_i h16 382) (99 : Int32) ((V_196 (mx_i h16 382) i5 (4 : Int32)) + (mx_i h16 381 17)))]) (rest := []) (P := ((mxT 381).1 = mxRc 197 ∧ mxG h16)) rfl (by with_unfolding_all rfl) ⟨(congrArg Prod.fst sT_381), G18⟩ (Nat.le_of_ble_eq_true rfl) (sp_197 G18 o19 ?_)
      show mx_wp (d + 35) 241 51 [some (.ref 381), some (.int i1), some (.int i2), some (.int i3), some (.int i4), some (.int i5)] [] (W_197 h16 i5 (4 : Int32) (V_192 (mx_i h16 382) (99 : Int32) ((V_196 (mx_i h16 382) i5 (4 : Int32)) + (mx_i h16 381 17)))) Q
      obtain ⟨h20, e21⟩ : ∃ z9, z9 = W_197 h16 i5 (4 : Int32) (V_192 (mx_i h16 382) (99 : Int32) ((V_196 (mx_i h16 382) i5 (4 : Int32)) + (mx_i h16 381 17))) := ⟨_, rfl⟩
      rw [← e21]
      have H := H h20 e21
      have K23 : mxK h16 h20 := e21 ▸ KW_197
      have G22 : mxG h20 := mxK_G K23 G18
      refine wp_steps (i' := 53) (ls' := [some (.ref 381), some (.int i1), some (.int i2), some (.int i3), some (.int i4), some (.int i5)]) (st' := [.int i5, .ref 381]) (h' := h20) (P := True) 2 rfl rfl trivial ?_
      obtain ⟨o24, H⟩ := H
      refine wp_call (b := false) (y' := 237) (as := [.ref 381, .int i5]) (rest := []) (P := ((mxT 381).1 = mxRc 237 ∧ mxG h20)) rfl (by with_unfolding_all rfl) ⟨(congrArg Prod.fst sT_381), G22⟩ (Nat.le_of_ble_eq_true rfl) (sp_237 G22 o24 ?_)
      intro h26 p27
      show mx_wp (d + 35) 241 54 [some (.ref 381), some (.int i1), some (.int i2), some (.int i3), some (.int i4), some (.int i5)] [] h26 Q
      have H := H h26 p27
      have G28 : mxG h26 := mxK_G p27.1.1 G22
      refine wp_steps (i' := 55) (ls' := [some (.ref 381), some (.int i1), some (.int i2), some (.int i3), some (.int i4), some (.int i5)]) (st' := [.int i2]) (h' := h26) (P := True) 1 rfl rfl trivial ?_
      refine wp_br (P := True) (c := i2 = 0) (t := 71) (st' := []) rfl rfl trivial (fun c29 => ?_) (fun c29 => ?_)
      · skip
        have H := H.1 c29
        refine wp_steps (i' := 72) (ls' := [some (.ref 381), some (.int i1), some (.int i2), some (.int i3), some (.int i4), some (.int (i5 + 1))]) (st' := []) (h' := h26) (P := True) 1 rfl rfl trivial ?_
        refine wp_J (j := 22) (st' := []) rfl rfl ?_
        exact H 
      · skip
        have H := H.2 c29
        refine wp_steps (i' := 58) (ls' := [some (.ref 381), some (.int i1), some (.int i2), some (.int i3), some (.int i4), some (.int i5)]) (st' := [.int 100, .ref 381]) (h' := h26) (P := True) 2 rfl rfl trivial ?_
        obtain ⟨o30, H⟩ := H
        refine wp_call (b := false) (y' := 238) (as := [.ref 381, .int 100]) (rest := []) (P := ((mxT 381).1 = mxRc 238 ∧ mxG h26)) rfl (by with_unfolding_all rfl) ⟨(congrArg Prod.fst sT_381), G28⟩ (Nat.le_of_ble_eq_true rfl) (sp_238 G28 o30 ?_)
        show mx_wp (d + 35) 241 59 [some (.ref 381), some (.int i1), some (.int i2), some (.int i3), some (.int i4), some (.int i5)] [.int (V_238 h26 (100 : Int32))] (W_238 h26 (100 : Int32)) Q
        obtain ⟨h31, e32⟩ : ∃ z9, z9 = W_238 h26 (100 : Int32) := ⟨_, rfl⟩
        rw [← e32]
        have H := H h31 e32
        have K34 : mxK h26 h31 := e32 ▸ KW_238
        have G33 : mxG h31 := mxK_G K34 G28
        refine wp_steps (i' := 62) (ls' := [some (.ref 381), some (.int i1), some (.int i2), some (.int i3), some (.int i4), some (.int i5)]) (st' := [.int (mx_i h31 381 19), .int 100, .int (V_238 h26 (100 : Int32))]) (h' := h31) (P := ((mxT 381).1 = 11 ∧ mxG h31) ∧ True) 3 rfl rfl ⟨⟨(congrArg Prod.fst sT_381), G33⟩, trivial⟩ ?_
        refine wp_call (b := false) (y' := 192) (as := [.int 100, .int (mx_i h31 381 19)]) (rest := [.int (V_238 h26 (100 : Int32))]) (P := True) rfl (by with_unfolding_all rfl) trivial (Nat.le_of_ble_eq_true rfl) (sp_192 G33 ?_)
        show mx_wp (d + 35) 241 63 [some (.ref 381), some (.int i1), some (.int i2), some (.int i3), some (.int i4), some (.int i5)] [.int (V_192 (mx_i h31 382) (100 : Int32) (mx_i h31 381 19)), .int (V_238 h26 (100 : Int32))] h31 Q
        refine wp_br (P := True) (c := (V_238 h26 (100 : Int32)) < (V_192 (mx_i h31 382) (100 : Int32) (mx_i h31 381 19))) (t := 65) (st' := []) rfl rfl trivial (fun c35 => ?_) (fun c35 => ?_)
        · skip
          have H := H.1 c35
          refine wp_steps (i' := 69) (ls' := [some (.ref 381), some (.int i1), some (.int i2), some (.int i3), some (.int i4), some (.int i5)]) (st' := [.int 1, .int 5, .int i5, .ref 381]) (h' := h31) (P := True) 4 rfl rfl trivial ?_
          refine wp_call (b := false) (y' := 197) (as := [.ref 381, .int i5, .int 5, .int 1]) (rest := []) (P := ((mxT 381).1 = mxRc 197 ∧ mxG h31)) rfl (by with_unfolding_all rfl) ⟨(congrArg Prod.fst sT_381), G33⟩ (Nat.le_of_ble_eq_true rfl) (sp_197 G33 o12 ?_)
          show mx_wp (d + 35) 241 70 [some (.ref 381), some (.int i1), some (.int i2), some (.int i3), some (.int i4), some (.int i5)] [] (W_197 h31 i5 (5 : Int32) (1 : Int32)) Q
          obtain ⟨h36, e37⟩ : ∃ z9, z9 = W_197 h31 i5 (5 : Int32) (1 : Int32) := ⟨_, rfl⟩
          rw [← e37]
          have H := H h36 e37
          have K39 : mxK h31 h36 := e37 ▸ KW_197
          have G38 : mxG h36 := mxK_G K39 G33
          refine wp_steps (i' := 72) (ls' := [some (.ref 381), some (.int i1), some (.int i2), some (.int (i3 + 1)), some (.int i4), some (.int (i5 + 1))]) (st' := []) (h' := h36) (P := True) 2 rfl rfl trivial ?_
          refine wp_J (j := 22) (st' := []) rfl rfl ?_
          exact H 
        · skip
          have H := H.2 c35
          refine wp_J (j := 71) (st' := []) rfl rfl ?_
          refine wp_steps (i' := 72) (ls' := [some (.ref 381), some (.int i1), some (.int i2), some (.int i3), some (.int i4), some (.int (i5 + 1))]) (st' := []) (h' := h31) (P := True) 1 rfl rfl trivial ?_
          refine wp_J (j := 22) (st' := []) rfl rfl ?_
          exact H 
    · have c13 := Decidable.of_not_not c13
      have H := H.1 c13
      refine wp_J (j := 71) (st' := []) rfl rfl ?_
      refine wp_steps (i' := 72) (ls' := [some (.ref 381), some (.int i1), some (.int i2), some (.int i3), some (.int i4), some (.int (i5 + 1))]) (st' := []) (h' := h) (P := True) 1 rfl rfl trivial ?_
      refine wp_J (j := 22) (st' := []) rfl rfl ?_
      exact H 
