/-! 39: StoneBacks$LawText.closeNots(LStoneBacks$Law;)V -/
def H_39_2 (d : Nat) (h : mxH) (b : Nat) (i2 : Int32) (Q : mxO → mxH → Prop) : Prop := mx_wp d 39 2 [some (.ref 107), some (.ref b), some (.int i2)] [] h Q
set_option maxRecDepth 8000 in
theorem tr_39_0 {d : Nat} {h : mxH} {Q : mxO → mxH → Prop} {b : Nat} (G : mxG h) (hVb : (mxT b).1 = 3) (H : H_39_2 (d + 1) h b 0 Q) : mx_wp (d + 1) 39 0 (mx_fr 39 [.ref 107, .ref b]) [] h Q := by
  show mx_wp (d + 1) 39 0 [some (.ref 107), some (.ref b), none] [] h Q
  refine wp_steps (i' := 2) (ls' := [some (.ref 107), some (.ref b), some (.int 0)]) (st' := []) (h' := h) (P := True) 2 rfl rfl trivial ?_
  exact H 
set_option maxRecDepth 8000 in
theorem tr_39_2 {d : Nat} {h : mxH} {Q : mxO → mxH → Prop} {b : Nat} {i2 : Int32} (G : mxG h) (hVb : (mxT b).1 = 3) (H : ((i2 < 6 → (((0 < (mx_i h 107 1) → (vp_in ((mx_i h 107 1) - 1) 64 ∧ True)) ∧ (¬ 0 < (mx_i h 107 1) → True)) ∧ (((V_38 h (1009 : Int32)) = 0 → Q (.inl none) h) ∧ (¬ (V_38 h (1009 : Int32)) = 0 → ((((mx_i h b 2) < 400 → (vp_in (mx_i h b 2) 400 ∧ True)) ∧ (¬ (mx_i h b 2) < 400 → True)) ∧ (∀ h5, h5 = W_23 h b (1009 : Int32) → (∀ h9, h9 = mx_wi h5 107 1 ((mx_i h5 107 1) - 1) → (∀ h12, h12 = mx_wi h9 107 2 ((mx_i h9 107 2) - 1) → H_39_2 (d + 1) h12 b (i2 + 1) Q)))))))) ∧ (¬ i2 < 6 → Q (.inl none) h))) : H_39_2 (d + 1) h b i2 Q := by
  show mx_wp (d + 1) 39 2 [some (.ref 107), some (.ref b), some (.int i2)] [] h Q
  refine wp_steps (i' := 4) (ls' := [some (.ref 107), some (.ref b), some (.int i2)]) (st' := [.int 6, .int i2]) (h' := h) (P := True) 2 rfl rfl trivial ?_
  refine wp_br (P := True) (c := 6 ≤ i2) (t := 26) (st' := []) rfl rfl trivial (fun c1 => ?_) (fun c1 => ?_)
  · have c1 := Int32.not_lt.mpr c1
    have H := H.2 c1
    exact wp_end (o := .inl none) (h' := h) (P := True) rfl rfl trivial H
  · have c1 := Int32.not_le.mp c1
    have H := H.1 c1
    refine wp_steps (i' := 7) (ls' := [some (.ref 107), some (.ref b), some (.int i2)]) (st' := [.int 1009, .ref 107]) (h' := h) (P := True) 2 rfl rfl trivial ?_
    obtain ⟨o2, H⟩ := H
    refine wp_call (b := false) (y' := 38) (as := [.ref 107, .int 1009]) (rest := []) (P := ((mxT 107).1 = mxRc 38 ∧ mxG h)) rfl (by with_unfolding_all rfl) ⟨(congrArg Prod.fst sT_107), G⟩ (Nat.le_of_ble_eq_true rfl) (sp_38 G o2 ?_)
    show mx_wp (d + 1) 39 8 [some (.ref 107), some (.ref b), some (.int i2)] [.int (V_38 h (1009 : Int32))] h Q
    refine wp_br (P := True) (c := (V_38 h (1009 : Int32)) = 0) (t := 26) (st' := []) rfl rfl trivial (fun c3 => ?_) (fun c3 => ?_)
    · skip
      have H := H.1 c3
      exact wp_end (o := .inl none) (h' := h) (P := True) rfl rfl trivial H
    · skip
      have H := H.2 c3
      refine wp_steps (i' := 11) (ls' := [some (.ref 107), some (.ref b), some (.int i2)]) (st' := [.int 1009, .ref b]) (h' := h) (P := True) 2 rfl rfl trivial ?_
      obtain ⟨o4, H⟩ := H
      refine wp_call (b := false) (y' := 23) (as := [.ref b, .int 1009]) (rest := []) (P := ((mxT b).1 = mxRc 23 ∧ mxG h)) rfl (by with_unfolding_all rfl) ⟨(congrArg Prod.fst (sL_0 hVb)), G⟩ (Nat.le_of_ble_eq_true rfl) (sp_23 G hVb o4 ?_)
      show mx_wp (d + 1) 39 12 [some (.ref 107), some (.ref b), some (.int i2)] [] (W_23 h b (1009 : Int32)) Q
      obtain ⟨h5, e6⟩ : ∃ z9, z9 = W_23 h b (1009 : Int32) := ⟨_, rfl⟩
      rw [← e6]
      have H := H h5 e6
      have K8 : mxK h h5 := e6 ▸ KW_23
      have G7 : mxG h5 := mxK_G K8 G
      refine wp_steps (i' := 18) (ls' := [some (.ref 107), some (.ref b), some (.int i2)]) (st' := []) (h' := mx_wi h5 107 1 ((mx_i h5 107 1) - 1)) (P := ((mxT 107).1 = 4 ∧ mxG h5) ∧ ((mxT 107).1 = 4 ∧ mxG h5) ∧ True) 6 rfl rfl ⟨⟨(congrArg Prod.fst sT_107), G7⟩, ⟨(congrArg Prod.fst sT_107), G7⟩, trivial⟩ ?_
      obtain ⟨h9, e10⟩ : ∃ z9, z9 = mx_wi h5 107 1 ((mx_i h5 107 1) - 1) := ⟨_, rfl⟩
      rw [← e10]
      have H := H h9 e10
      have G11 : mxG h9 := e10 ▸ mxG_wi G7
      refine wp_steps (i' := 24) (ls' := [some (.ref 107), some (.ref b), some (.int i2)]) (st' := []) (h' := mx_wi h9 107 2 ((mx_i h9 107 2) - 1)) (P := ((mxT 107).1 = 4 ∧ mxG h9) ∧ ((mxT 107).1 = 4 ∧ mxG h9) ∧ True) 6 rfl rfl ⟨⟨(congrArg Prod.fst sT_107), G11⟩, ⟨(congrArg Prod.fst sT_107), G11⟩, trivial⟩ ?_
      obtain ⟨h12, e13⟩ : ∃ z9, z9 = mx_wi h9 107 2 ((mx_i h9 107 2) - 1) := ⟨_, rfl⟩
      rw [← e13]
      have H := H h12 e13
      have G14 : mxG h12 := e13 ▸ mxG_wi G11
      refine wp_steps (i' := 25) (ls' := [some (.ref 107), some (.ref b), some (.int (i2 + 1))]) (st' := []) (h' := h12) (P := True) 1 rfl rfl trivial ?_
      refine wp_J (j := 2) (st' := []) rfl rfl ?_
      exact H 
/-! 40: StoneBacks$LawText.closeJoins(LStoneBacks$Law;I)V -/
def H_40_2 (d : Nat) (h : mxH) (b : Nat) (i2 : Int32) (i3 : Int32) (Q : mxO → mxH → Prop) : Prop := mx_wp d 40 2 [some (.ref 107), some (.ref b), some (.int i2), some (.int i3)] [] h Q
set_option maxRecDepth 8000 in
theorem tr_40_0 {d : Nat} {h : mxH} {Q : mxO → mxH → Prop} {b : Nat} {i2 : Int32} (G : mxG h) (hVb : (mxT b).1 = 3) (H : H_40_2 (d + 1) h b i2 0 Q) : mx_wp (d + 1) 40 0 (mx_fr 40 [.ref 107, .ref b, .int i2]) [] h Q := by
  show mx_wp (d + 1) 40 0 [some (.ref 107), some (.ref b), some (.int i2), none] [] h Q
  refine wp_steps (i' := 2) (ls' := [some (.ref 107), some (.ref b), some (.int i2), some (.int 0)]) (st' := []) (h' := h) (P := True) 2 rfl rfl trivial ?_
  exact H 
set_option maxRecDepth 8000 in
theorem tr_40_2 {d : Nat} {h : mxH} {Q : mxO → mxH → Prop} {b : Nat} {i2 : Int32} {i3 : Int32} (G : mxG h) (hVb : (mxT b).1 = 3) (H : ((i3 < 64 → (((0 < (mx_i h 107 1) → (vp_in ((mx_i h 107 1) - 1) 64 ∧ True)) ∧ (¬ 0 < (mx_i h 107 1) → True)) ∧ (((V_38 h (1013 : Int32)) = 0 → (((V_38 h (1014 : Int32)) = 0 → Q (.inl none) h) ∧ (¬ (V_38 h (1014 : Int32)) = 0 → ((i2 = 1014 → ((((mx_i h b 2) < 400 → (vp_in (mx_i h b 2) 400 ∧ True)) ∧ (¬ (mx_i h b 2) < 400 → True)) ∧ (∀ h7, h7 = W_23 h b (1014 : Int32) → (∀ h11, h11 = mx_wi h7 107 1 ((mx_i h7 107 1) - 1) → H_40_2 (d + 1) h11 b i2 (i3 + 1) Q)))) ∧ (¬ i2 = 1014 → Q (.inl none) h))))) ∧ (¬ (V_38 h (1013 : Int32)) = 0 → ((((mx_i h b 2) < 400 → (vp_in (mx_i h b 2) 400 ∧ True)) ∧ (¬ (mx_i h b 2) < 400 → True)) ∧ (∀ h15, h15 = W_23 h b (1013 : Int32) → (∀ h19, h19 = mx_wi h15 107 1 ((mx_i h15 107 1) - 1) → H_40_2 (d + 1) h19 b i2 (i3 + 1) Q))))))) ∧ (¬ i3 < 64 → Q (.inl none) h))) : H_40_2 (d + 1) h b i2 i3 Q := by
  show mx_wp (d + 1) 40 2 [some (.ref 107), some (.ref b), some (.int i2), some (.int i3)] [] h Q
  refine wp_steps (i' := 4) (ls' := [some (.ref 107), some (.ref b), some (.int i2), some (.int i3)]) (st' := [.int 64, .int i3]) (h' := h) (P := True) 2 rfl rfl trivial ?_
  refine wp_br (P := True) (c := 64 ≤ i3) (t := 33) (st' := []) rfl rfl trivial (fun c1 => ?_) (fun c1 => ?_)
  · have c1 := Int32.not_lt.mpr c1
    have H := H.2 c1
    exact wp_end (o := .inl none) (h' := h) (P := True) rfl rfl trivial H
  · have c1 := Int32.not_le.mp c1
    have H := H.1 c1
    refine wp_steps (i' := 7) (ls' := [some (.ref 107), some (.ref b), some (.int i2), some (.int i3)]) (st' := [.int 1013, .ref 107]) (h' := h) (P := True) 2 rfl rfl trivial ?_
    obtain ⟨o2, H⟩ := H
    refine wp_call (b := false) (y' := 38) (as := [.ref 107, .int 1013]) (rest := []) (P := ((mxT 107).1 = mxRc 38 ∧ mxG h)) rfl (by with_unfolding_all rfl) ⟨(congrArg Prod.fst sT_107), G⟩ (Nat.le_of_ble_eq_true rfl) (sp_38 G o2 ?_)
    show mx_wp (d + 1) 40 8 [some (.ref 107), some (.ref b), some (.int i2), some (.int i3)] [.int (V_38 h (1013 : Int32))] h Q
    refine wp_br (P := True) (c := (V_38 h (1013 : Int32)) = 0) (t := 13) (st' := []) rfl rfl trivial (fun c3 => ?_) (fun c3 => ?_)
    · skip
      have H := H.1 c3
      refine wp_steps (i' := 15) (ls' := [some (.ref 107), some (.ref b), some (.int i2), some (.int i3)]) (st' := [.int 1014, .ref 107]) (h' := h) (P := True) 2 rfl rfl trivial ?_
      refine wp_call (b := false) (y' := 38) (as := [.ref 107, .int 1014]) (rest := []) (P := ((mxT 107).1 = mxRc 38 ∧ mxG h)) rfl (by with_unfolding_all rfl) ⟨(congrArg Prod.fst sT_107), G⟩ (Nat.le_of_ble_eq_true rfl) (sp_38 G o2 ?_)
      show mx_wp (d + 1) 40 16 [some (.ref 107), some (.ref b), some (.int i2), some (.int i3)] [.int (V_38 h (1014 : Int32))] h Q
      refine wp_br (P := True) (c := (V_38 h (1014 : Int32)) = 0) (t := 24) (st' := []) rfl rfl trivial (fun c4 => ?_) (fun c4 => ?_)
      · skip
        have H := H.1 c4
        exact wp_end (o := .inl none) (h' := h) (P := True) rfl rfl trivial H
      · skip
        have H := H.2 c4
        refine wp_steps (i' := 19) (ls' := [some (.ref 107), some (.ref b), some (.int i2), some (.int i3)]) (st' := [.int 1014, .int i2]) (h' := h) (P := True) 2 rfl rfl trivial ?_
        refine wp_br (P := True) (c := ¬ i2 = 1014) (t := 24) (st' := []) rfl rfl trivial (fun c5 => ?_) (fun c5 => ?_)
        · skip
          have H := H.2 c5
          exact wp_end (o := .inl none) (h' := h) (P := True) rfl rfl trivial H
        · have c5 := Decidable.of_not_not c5
          have H := H.1 c5
          refine wp_steps (i' := 22) (ls' := [some (.ref 107), some (.ref b), some (.int i2), some (.int i3)]) (st' := [.int 1014, .ref b]) (h' := h) (P := True) 2 rfl rfl trivial ?_
          obtain ⟨o6, H⟩ := H
          refine wp_call (b := false) (y' := 23) (as := [.ref b, .int 1014]) (rest := []) (P := ((mxT b).1 = mxRc 23 ∧ mxG h)) rfl (by with_unfolding_all rfl) ⟨(congrArg Prod.fst (sL_0 hVb)), G⟩ (Nat.le_of_ble_eq_true rfl) (sp_23 G hVb o6 ?_)
          show mx_wp (d + 1) 40 23 [some (.ref 107), some (.ref b), some (.int i2), some (.int i3)] [] (W_23 h b (1014 : Int32)) Q
          obtain ⟨h7, e8⟩ : ∃ z9, z9 = W_23 h b (1014 : Int32) := ⟨_, rfl⟩
          rw [← e8]
          have H := H h7 e8
          have K10 : mxK h h7 := e8 ▸ KW_23
          have G9 : mxG h7 := mxK_G K10 G
          refine wp_J (j := 25) (st' := []) rfl rfl ?_
          refine wp_steps (i' := 31) (ls' := [some (.ref 107), some (.ref b), some (.int i2), some (.int i3)]) (st' := []) (h' := mx_wi h7 107 1 ((mx_i h7 107 1) - 1)) (P := ((mxT 107).1 = 4 ∧ mxG h7) ∧ ((mxT 107).1 = 4 ∧ mxG h7) ∧ True) 6 rfl rfl ⟨⟨(congrArg Prod.fst sT_107), G9⟩, ⟨(congrArg Prod.fst sT_107), G9⟩, trivial⟩ ?_
          obtain ⟨h11, e12⟩ : ∃ z9, z9 = mx_wi h7 107 1 ((mx_i h7 107 1) - 1) := ⟨_, rfl⟩
          rw [← e12]
          have H := H h11 e12
          have G13 : mxG h11 := e12 ▸ mxG_wi G9
          refine wp_steps (i' := 32) (ls' := [some (.ref 107), some (.ref b), some (.int i2), some (.int (i3 + 1))]) (st' := []) (h' := h11) (P := True) 1 rfl rfl trivial ?_
          refine wp_J (j := 2) (st' := []) rfl rfl ?_
          exact H 
    · skip
      have H := H.2 c3
      refine wp_steps (i' := 11) (ls' := [some (.ref 107), some (.ref b), some (.int i2), some (.int i3)]) (st' := [.int 1013, .ref b]) (h' := h) (P := True) 2 rfl rfl trivial ?_
      obtain ⟨o14, H⟩ := H
      refine wp_call (b := false) (y' := 23) (as := [.ref b, .int 1013]) (rest := []) (P := ((mxT b).1 = mxRc 23 ∧ mxG h)) rfl (by with_unfolding_all rfl) ⟨(congrArg Prod.fst (sL_0 hVb)), G⟩ (Nat.le_of_ble_eq_true rfl) (sp_23 G hVb o14 ?_)
      show mx_wp (d + 1) 40 12 [some (.ref 107), some (.ref b), some (.int i2), some (.int i3)] [] (W_23 h b (1013 : Int32)) Q
      obtain ⟨h15, e16⟩ : ∃ z9, z9 = W_23 h b (1013 : Int32) := ⟨_, rfl⟩
      rw [← e16]
      have H := H h15 e16
      have K18 : mxK h h15 := e16 ▸ KW_23
      have G17 : mxG h15 := mxK_G K18 G
      refine wp_J (j := 25) (st' := []) rfl rfl ?_
      refine wp_steps (i' := 31) (ls' := [some (.ref 107), some (.ref b), some (.int i2), some (.int i3)]) (st' := []) (h' := mx_wi h15 107 1 ((mx_i h15 107 1) - 1)) (P := ((mxT 107).1 = 4 ∧ mxG h15) ∧ ((mxT 107).1 = 4 ∧ mxG h15) ∧ True) 6 rfl rfl ⟨⟨(congrArg Prod.fst sT_107), G17⟩, ⟨(congrArg Prod.fst sT_107), G17⟩, trivial⟩ ?_
      obtain ⟨h19, e20⟩ : ∃ z9, z9 = mx_wi h15 107 1 ((mx_i h15 107 1) - 1) := ⟨_, rfl⟩
      rw [← e20]
      have H := H h19 e20
      have G21 : mxG h19 := e20 ▸ mxG_wi G17
      refine wp_steps (i' := 32) (ls' := [some (.ref 107), some (.ref b), some (.int i2), some (.int (i3 + 1))]) (st' := []) (h' := h19) (P := True) 1 rfl rfl trivial ?_
      refine wp_J (j := 2) (st' := []) rfl rfl ?_
      exact H 
/-! 43: StoneBacks$People.copyFrom(LStoneBacks$People;)V -/
set_option maxRecDepth 8000 in
theorem tr_43_0 {d : Nat} {h : mxH} {Q : mxO → mxH → Prop} {a : Nat} {c : Nat} (G : mxG h) (hVa : (mxT a).1 = 9) (hVc : (mxT c).1 = 9) (H : (∀ h1, h1 = mx_wi h (a + 1) 0 (mx_i h (c + 1) 0) → (∀ h4, h4 = mx_wi h1 (a + 1) 6 (mx_i h1 (c + 1) 6) → (∀ h7, h7 = mx_wrow h4 (a + 2) (va_cpy (mx_i h4 (c + 2)) (mx_i h4 (a + 2)) 0 0 6) → (∀ h10, h10 = mx_wrow h7 (a + 3) (va_cpy (mx_i h7 (c + 3)) (mx_i h7 (a + 3)) 0 0 6) → (∀ h13, h13 = mx_wrow h10 (a + 4) (va_cpy (mx_i h10 (c + 4)) (mx_i h10 (a + 4)) 0 0 6) → (∀ h16, h16 = mx_wrow h13 (a + 5) (va_cpy (mx_i h13 (c + 5)) (mx_i h13 (a + 5)) 0 0 6) → (∀ h19, h19 = mx_wrow h16 (a + 6) (va_cpy (mx_i h16 (c + 6)) (mx_i h16 (a + 6)) 0 0 6) → Q (.inl none) h19)))))))) : mx_wp d 43 0 (mx_fr 43 [.ref (a + 1), .ref (c + 1)]) [] h Q := by
  show mx_wp d 43 0 [some (.ref (a + 1)), some (.ref (c + 1))] [] h Q
  refine wp_steps (i' := 4) (ls' := [some (.ref (a + 1)), some (.ref (c + 1))]) (st' := []) (h' := mx_wi h (a + 1) 0 (mx_i h (c + 1) 0)) (P := ((mxT (c + 1)).1 = 5 ∧ mxG h) ∧ ((mxT (a + 1)).1 = 5 ∧ mxG h) ∧ True) 4 rfl rfl ⟨⟨(congrArg Prod.fst (sV_1 hVc)), G⟩, ⟨(congrArg Prod.fst (sV_1 hVa)), G⟩, trivial⟩ ?_
  obtain ⟨h1, e2⟩ : ∃ z9, z9 = mx_wi h (a + 1) 0 (mx_i h (c + 1) 0) := ⟨_, rfl⟩
  rw [← e2]
  have H := H h1 e2
  have G3 : mxG h1 := e2 ▸ mxG_wi G
  refine wp_steps (i' := 8) (ls' := [some (.ref (a + 1)), some (.ref (c + 1))]) (st' := []) (h' := mx_wi h1 (a + 1) 6 (mx_i h1 (c + 1) 6)) (P := ((mxT (c + 1)).1 = 5 ∧ mxG h1) ∧ ((mxT (a + 1)).1 = 5 ∧ mxG h1) ∧ True) 4 rfl rfl ⟨⟨(congrArg Prod.fst (sV_1 hVc)), G3⟩, ⟨(congrArg Prod.fst (sV_1 hVa)), G3⟩, trivial⟩ ?_
  obtain ⟨h4, e5⟩ : ∃ z9, z9 = mx_wi h1 (a + 1) 6 (mx_i h1 (c + 1) 6) := ⟨_, rfl⟩
  rw [← e5]
  have H := H h4 e5
  have G6 : mxG h4 := e5 ▸ mxG_wi G3
  refine wp_steps (i' := 16) (ls' := [some (.ref (a + 1)), some (.ref (c + 1))]) (st' := []) (h' := mx_wrow h4 (a + 2) (va_cpy (mx_i h4 (c + 2)) (mx_i h4 (a + 2)) 0 0 6)) (P := ((mxT (c + 1)).1 = 5 ∧ mxG h4) ∧ ((mxT (a + 1)).1 = 5 ∧ mxG h4) ∧ ((((mxT (c + 2)).1 = 50 ∧ (mxT (a + 2)).1 = 50) ∧ mxG h4) ∧ ¬ (0 : Int32) < 0 ∧ ¬ (0 : Int32) < 0 ∧ ¬ (6 : Int32) < 0 ∧ 0 + 6 ≤ (mxT (c + 2)).2 ∧ 0 + 6 ≤ (mxT (a + 2)).2 ∧ (([] : List Value).map mx_cat).sum ≤ 8) ∧ True) 8 rfl rfl ⟨⟨(congrArg Prod.fst (sV_1 hVc)), G6⟩, ⟨(congrArg Prod.fst (sV_1 hVa)), G6⟩, (cC (sV_2 hVc) (sV_2 hVa) G6 rfl), trivial⟩ ?_
  obtain ⟨h7, e8⟩ : ∃ z9, z9 = mx_wrow h4 (a + 2) (va_cpy (mx_i h4 (c + 2)) (mx_i h4 (a + 2)) 0 0 6) := ⟨_, rfl⟩
  rw [← e8]
  have H := H h7 e8
  have G9 : mxG h7 := e8 ▸ mxG_wrow G6
  refine wp_steps (i' := 24) (ls' := [some (.ref (a + 1)), some (.ref (c + 1))]) (st' := []) (h' := mx_wrow h7 (a + 3) (va_cpy (mx_i h7 (c + 3)) (mx_i h7 (a + 3)) 0 0 6)) (P := ((mxT (c + 1)).1 = 5 ∧ mxG h7) ∧ ((mxT (a + 1)).1 = 5 ∧ mxG h7) ∧ ((((mxT (c + 3)).1 = 50 ∧ (mxT (a + 3)).1 = 50) ∧ mxG h7) ∧ ¬ (0 : Int32) < 0 ∧ ¬ (0 : Int32) < 0 ∧ ¬ (6 : Int32) < 0 ∧ 0 + 6 ≤ (mxT (c + 3)).2 ∧ 0 + 6 ≤ (mxT (a + 3)).2 ∧ (([] : List Value).map mx_cat).sum ≤ 8) ∧ True) 8 rfl rfl ⟨⟨(congrArg Prod.fst (sV_1 hVc)), G9⟩, ⟨(congrArg Prod.fst (sV_1 hVa)), G9⟩, (cC (sV_3 hVc) (sV_3 hVa) G9 rfl), trivial⟩ ?_
  obtain ⟨h10, e11⟩ : ∃ z9, z9 = mx_wrow h7 (a + 3) (va_cpy (mx_i h7 (c + 3)) (mx_i h7 (a + 3)) 0 0 6) := ⟨_, rfl⟩
  rw [← e11]
  have H := H h10 e11
  have G12 : mxG h10 := e11 ▸ mxG_wrow G9
  refine wp_steps (i' := 32) (ls' := [some (.ref (a + 1)), some (.ref (c + 1))]) (st' := []) (h' := mx_wrow h10 (a + 4) (va_cpy (mx_i h10 (c + 4)) (mx_i h10 (a + 4)) 0 0 6)) (P := ((mxT (c + 1)).1 = 5 ∧ mxG h10) ∧ ((mxT (a + 1)).1 = 5 ∧ mxG h10) ∧ ((((mxT (c + 4)).1 = 50 ∧ (mxT (a + 4)).1 = 50) ∧ mxG h10) ∧ ¬ (0 : Int32) < 0 ∧ ¬ (0 : Int32) < 0 ∧ ¬ (6 : Int32) < 0 ∧ 0 + 6 ≤ (mxT (c + 4)).2 ∧ 0 + 6 ≤ (mxT (a + 4)).2 ∧ (([] : List Value).map mx_cat).sum ≤ 8) ∧ True) 8 rfl rfl ⟨⟨(congrArg Prod.fst (sV_1 hVc)), G12⟩, ⟨(congrArg Prod.fst (sV_1 hVa)), G12⟩, (cC (sV_4 hVc) (sV_4 hVa) G12 rfl), trivial⟩ ?_
  obtain ⟨h13, e14⟩ : ∃ z9, z9 = mx_wrow h10 (a + 4) (va_cpy (mx_i h10 (c + 4)) (mx_i h10 (a + 4)) 0 0 6) := ⟨_, rfl⟩
  rw [← e14]
  have H := H h13 e14
  have G15 : mxG h13 := e14 ▸ mxG_wrow G12
  refine wp_steps (i' := 40) (ls' := [some (.ref (a + 1)), some (.ref (c + 1))]) (st' := []) (h' := mx_wrow h13 (a + 5) (va_cpy (mx_i h13 (c + 5)) (mx_i h13 (a + 5)) 0 0 6)) (P := ((mxT (c + 1)).1 = 5 ∧ mxG h13) ∧ ((mxT (a + 1)).1 = 5 ∧ mxG h13) ∧ ((((mxT (c + 5)).1 = 50 ∧ (mxT (a + 5)).1 = 50) ∧ mxG h13) ∧ ¬ (0 : Int32) < 0 ∧ ¬ (0 : Int32) < 0 ∧ ¬ (6 : Int32) < 0 ∧ 0 + 6 ≤ (mxT (c + 5)).2 ∧ 0 + 6 ≤ (mxT (a + 5)).2 ∧ (([] : List Value).map mx_cat).sum ≤ 8) ∧ True) 8 rfl rfl ⟨⟨(congrArg Prod.fst (sV_1 hVc)), G15⟩, ⟨(congrArg Prod.fst (sV_1 hVa)), G15⟩, (cC (sV_5 hVc) (sV_5 hVa) G15 rfl), trivial⟩ ?_
  obtain ⟨h16, e17⟩ : ∃ z9, z9 = mx_wrow h13 (a + 5) (va_cpy (mx_i h13 (c + 5)) (mx_i h13 (a + 5)) 0 0 6) := ⟨_, rfl⟩
  rw [← e17]
  have H := H h16 e17
  have G18 : mxG h16 := e17 ▸ mxG_wrow G15
  refine wp_steps (i' := 48) (ls' := [some (.ref (a + 1)), some (.ref (c + 1))]) (st' := []) (h' := mx_wrow h16 (a + 6) (va_cpy (mx_i h16 (c + 6)) (mx_i h16 (a + 6)) 0 0 6)) (P := ((mxT (c + 1)).1 = 5 ∧ mxG h16) ∧ ((mxT (a + 1)).1 = 5 ∧ mxG h16) ∧ ((((mxT (c + 6)).1 = 50 ∧ (mxT (a + 6)).1 = 50) ∧ mxG h16) ∧ ¬ (0 : Int32) < 0 ∧ ¬ (0 : Int32) < 0 ∧ ¬ (6 : Int32) < 0 ∧ 0 + 6 ≤ (mxT (c + 6)).2 ∧ 0 + 6 ≤ (mxT (a + 6)).2 ∧ (([] : List Value).map mx_cat).sum ≤ 8) ∧ True) 8 rfl rfl ⟨⟨(congrArg Prod.fst (sV_1 hVc)), G18⟩, ⟨(congrArg Prod.fst (sV_1 hVa)), G18⟩, (cC (sV_6 hVc) (sV_6 hVa) G18 rfl), trivial⟩ ?_
  obtain ⟨h19, e20⟩ : ∃ z9, z9 = mx_wrow h16 (a + 6) (va_cpy (mx_i h16 (c + 6)) (mx_i h16 (a + 6)) 0 0 6) := ⟨_, rfl⟩
  rw [← e20]
  have H := H h19 e20
  have G21 : mxG h19 := e20 ▸ mxG_wrow G18
  exact wp_end (o := .inl none) (h' := h19) (P := True) rfl rfl trivial H
/-! 44: StoneBacks$People.has(I)Z -/
set_option maxRecDepth 8000 in
theorem tr_44_0 {d : Nat} {h : mxH} {Q : mxO → mxH → Prop} {a : Nat} {i1 : Int32} (G : mxG h) (hVa : (mxT a).1 = 9) (H : (∀ (v1 : Int32), v1 = ((if i1 < 0 then 0 else (if i1 < (mx_i h (a + 1) 0) then 1 else 0)) : Int32) → Q (.inl (some (.int v1))) h)) : mx_wp d 44 0 (mx_fr 44 [.ref (a + 1), .int i1]) [] h Q := by
  show mx_wp d 44 0 [some (.ref (a + 1)), some (.int i1)] [] h Q
  refine wp_steps (i' := 1) (ls' := [some (.ref (a + 1)), some (.int i1)]) (st' := [.int i1]) (h' := h) (P := True) 1 rfl rfl trivial ?_
  have J : ∀ (v1 : Int32) (ev1 : v1 = ((if i1 < 0 then 0 else (if i1 < (mx_i h (a + 1) 0) then 1 else 0)) : Int32)), mx_wp d 44 9 [some (.ref (a + 1)), some (.int i1)] [.int v1] h Q := by
    intro v1 ev1
    have H := H v1 ev1
    exact wp_end (o := .inl (some (.int v1))) (h' := h) (P := (v1 = 0 ∨ v1 = 1)) rfl rfl (b01 ev1 (by repeat' (first | exact Or.inl rfl | exact Or.inr rfl | split))) H
  refine wp_br (P := True) (c := i1 < 0) (t := 8) (st' := []) rfl rfl trivial (fun c2 => ?_) (fun c2 => ?_)
  · skip
    refine wp_steps (i' := 9) (ls' := [some (.ref (a + 1)), some (.int i1)]) (st' := [.int 0]) (h' := h) (P := True) 1 rfl rfl trivial ?_
    exact J _ (by rw [if_pos c2])
  · skip
    refine wp_steps (i' := 5) (ls' := [some (.ref (a + 1)), some (.int i1)]) (st' := [.int (mx_i h (a + 1) 0), .int i1]) (h' := h) (P := ((mxT (a + 1)).1 = 5 ∧ mxG h) ∧ True) 3 rfl rfl ⟨⟨(congrArg Prod.fst (sV_1 hVa)), G⟩, trivial⟩ ?_
    refine wp_br (P := True) (c := (mx_i h (a + 1) 0) ≤ i1) (t := 8) (st' := []) rfl rfl trivial (fun c3 => ?_) (fun c3 => ?_)
    · have c3 := Int32.not_lt.mpr c3
      refine wp_steps (i' := 9) (ls' := [some (.ref (a + 1)), some (.int i1)]) (st' := [.int 0]) (h' := h) (P := True) 1 rfl rfl trivial ?_
      exact J _ (by rw [if_neg c2, if_neg c3])
    · have c3 := Int32.not_le.mp c3
      refine wp_steps (i' := 7) (ls' := [some (.ref (a + 1)), some (.int i1)]) (st' := [.int 1]) (h' := h) (P := True) 1 rfl rfl trivial ?_
      refine wp_J (j := 9) (st' := [.int 1]) rfl rfl ?_
      exact J _ (by rw [if_neg c2, if_pos c3])
def V_44 (h : mxH) (a : Nat) (i1 : Int32) : Int32 := ((if i1 < 0 then 0 else (if i1 < (mx_i h (a + 1) 0) then 1 else 0)) : Int32)
theorem sp_44 {d : Nat} {h : mxH} {Q : mxO → mxH → Prop} {a : Nat} {i1 : Int32} (G : mxG h) (hVa : (mxT a).1 = 9) (k : Q (.inl (some (.int (V_44 h a i1)))) h) : mx_wp d 44 0 (mx_fr 44 [.ref (a + 1), .int i1]) [] h Q := by
  unfold V_44 at k
  refine tr_44_0 G hVa ?_
  intro v1 ev1
  subst ev1
  exact k
/-! 51: StoneBacks$People.heal(I)V -/
set_option maxRecDepth 8000 in
theorem tr_51_0 {d : Nat} {h : mxH} {Q : mxO → mxH → Prop} {a : Nat} {i1 : Int32} (G : mxG h) (hVa : (mxT a).1 = 9) (H : (∀ h1, h1 = mx_wi h (a + 1) 6 ((mx_i h (a + 1) 6) &&& (((1 : Int32) <<< (i1 &&& 31)) ^^^ (-1))) → Q (.inl none) h1)) : mx_wp d 51 0 (mx_fr 51 [.ref (a + 1), .int i1]) [] h Q := by
  show mx_wp d 51 0 [some (.ref (a + 1)), some (.int i1)] [] h Q
  refine wp_steps (i' := 10) (ls' := [some (.ref (a + 1)), some (.int i1)]) (st' := []) (h' := mx_wi h (a + 1) 6 ((mx_i h (a + 1) 6) &&& (((1 : Int32) <<< (i1 &&& 31)) ^^^ (-1)))) (P := ((mxT (a + 1)).1 = 5 ∧ mxG h) ∧ ((mxT (a + 1)).1 = 5 ∧ mxG h) ∧ True) 10 rfl rfl ⟨⟨(congrArg Prod.fst (sV_1 hVa)), G⟩, ⟨(congrArg Prod.fst (sV_1 hVa)), G⟩, trivial⟩ ?_
  obtain ⟨h1, e2⟩ : ∃ z9, z9 = mx_wi h (a + 1) 6 ((mx_i h (a + 1) 6) &&& (((1 : Int32) <<< (i1 &&& 31)) ^^^ (-1))) := ⟨_, rfl⟩
  rw [← e2]
  have H := H h1 e2
  have G3 : mxG h1 := e2 ▸ mxG_wi G
  exact wp_end (o := .inl none) (h' := h1) (P := True) rfl rfl trivial H
def W_51 (h : mxH) (a : Nat) (i1 : Int32) : mxH := (mx_wi h (a + 1) 6 ((mx_i h (a + 1) 6) &&& (((1 : Int32) <<< (i1 &&& 31)) ^^^ (-1))))
theorem KW_51 {h : mxH} {a : Nat} {i1 : Int32} : mxK h (W_51 h a i1) := by
  unfold W_51
  repeat' (first | with_reducible exact mxK_rfl | with_reducible exact mxK_wi | with_reducible exact mxK_wrow | with_reducible refine mxK_ite ?_ ?_ | with_reducible refine mxK_tr ?_ mxK_wi | with_reducible refine mxK_tr ?_ mxK_wrow)
theorem sp_51 {d : Nat} {h : mxH} {Q : mxO → mxH → Prop} {a : Nat} {i1 : Int32} (G : mxG h) (hVa : (mxT a).1 = 9) (k : Q (.inl none) (W_51 h a i1)) : mx_wp d 51 0 (mx_fr 51 [.ref (a + 1), .int i1]) [] h Q := by
  unfold W_51 at k
  refine tr_51_0 G hVa ?_
  intro h1 eh1
  subst eh1
  exact k
/-! 45: StoneBacks$People.addNew(IIII)V -/
set_option maxRecDepth 8000 in
theorem tr_45_0 {d : Nat} {h : mxH} {Q : mxO → mxH → Prop} {a : Nat} {i1 : Int32} {i2 : Int32} {i3 : Int32} {i4 : Int32} (G : mxG h) (hVa : (mxT a).1 = 9) (H : (((mx_i h (a + 1) 0) < 6 → (vp_in (mx_i h (a + 1) 0) 6 ∧ (∀ h3, h3 = mx_wi h (a + 2) (mx_i h (a + 1) 0).toNatClampNeg i1 → (vp_in (mx_i h3 (a + 1) 0) 6 ∧ (∀ h7, h7 = mx_wi h3 (a + 3) (mx_i h3 (a + 1) 0).toNatClampNeg i2 → (vp_in (mx_i h7 (a + 1) 0) 6 ∧ (∀ h11, h11 = mx_wi h7 (a + 4) (mx_i h7 (a + 1) 0).toNatClampNeg i3 → (vp_in (mx_i h11 (a + 1) 0) 6 ∧ (∀ h15, h15 = mx_wi h11 (a + 5) (mx_i h11 (a + 1) 0).toNatClampNeg i4 → (vp_in (mx_i h15 (a + 1) 0) 6 ∧ (∀ h19, h19 = mx_wi h15 (a + 6) (mx_i h15 (a + 1) 0).toNatClampNeg 0 → (∀ h22, h22 = W_51 h19 a (mx_i h19 (a + 1) 0) → (∀ h26, h26 = mx_wi h22 (a + 1) 0 ((mx_i h22 (a + 1) 0) + 1) → Q (.inl none) h26))))))))))))) ∧ (¬ (mx_i h (a + 1) 0) < 6 → Q (.inl none) h))) : mx_wp (d + 1) 45 0 (mx_fr 45 [.ref (a + 1), .int i1, .int i2, .int i3, .int i4]) [] h Q := by
  show mx_wp (d + 1) 45 0 [some (.ref (a + 1)), some (.int i1), some (.int i2), some (.int i3), some (.int i4)] [] h Q
  refine wp_steps (i' := 3) (ls' := [some (.ref (a + 1)), some (.int i1), some (.int i2), some (.int i3), some (.int i4)]) (st' := [.int 6, .int (mx_i h (a + 1) 0)]) (h' := h) (P := ((mxT (a + 1)).1 = 5 ∧ mxG h) ∧ True) 3 rfl rfl ⟨⟨(congrArg Prod.fst (sV_1 hVa)), G⟩, trivial⟩ ?_
  refine wp_br (P := True) (c := 6 ≤ (mx_i h (a + 1) 0)) (t := 44) (st' := []) rfl rfl trivial (fun c1 => ?_) (fun c1 => ?_)
  · have c1 := Int32.not_lt.mpr c1
    have H := H.2 c1
    exact wp_end (o := .inl none) (h' := h) (P := True) rfl rfl trivial H
  · have c1 := Int32.not_le.mp c1
    have H := H.1 c1
    obtain ⟨o2, H⟩ := H
    refine wp_steps (i' := 10) (ls' := [some (.ref (a + 1)), some (.int i1), some (.int i2), some (.int i3), some (.int i4)]) (st' := []) (h' := mx_wi h (a + 2) (mx_i h (a + 1) 0).toNatClampNeg i1) (P := ((mxT (a + 1)).1 = 5 ∧ mxG h) ∧ ((mxT (a + 1)).1 = 5 ∧ mxG h) ∧ (((mxT (a + 2)).1 = 50 ∧ mxG h) ∧ vp_in (mx_i h (a + 1) 0) (mxT (a + 2)).2) ∧ True) 6 rfl rfl ⟨⟨(congrArg Prod.fst (sV_1 hVa)), G⟩, ⟨(congrArg Prod.fst (sV_1 hVa)), G⟩, (cA (sV_2 hVa) G o2), trivial⟩ ?_
    obtain ⟨h3, e4⟩ : ∃ z9, z9 = mx_wi h (a + 2) (mx_i h (a + 1) 0).toNatClampNeg i1 := ⟨_, rfl⟩
    rw [← e4]
    have H := H h3 e4
    have G5 : mxG h3 := e4 ▸ mxG_wi G
    obtain ⟨o6, H⟩ := H
    refine wp_steps (i' := 16) (ls' := [some (.ref (a + 1)), some (.int i1), some (.int i2), some (.int i3), some (.int i4)]) (st' := []) (h' := mx_wi h3 (a + 3) (mx_i h3 (a + 1) 0).toNatClampNeg i2) (P := ((mxT (a + 1)).1 = 5 ∧ mxG h3) ∧ ((mxT (a + 1)).1 = 5 ∧ mxG h3) ∧ (((mxT (a + 3)).1 = 50 ∧ mxG h3) ∧ vp_in (mx_i h3 (a + 1) 0) (mxT (a + 3)).2) ∧ True) 6 rfl rfl ⟨⟨(congrArg Prod.fst (sV_1 hVa)), G5⟩, ⟨(congrArg Prod.fst (sV_1 hVa)), G5⟩, (cA (sV_3 hVa) G5 o6), trivial⟩ ?_
    obtain ⟨h7, e8⟩ : ∃ z9, z9 = mx_wi h3 (a + 3) (mx_i h3 (a + 1) 0).toNatClampNeg i2 := ⟨_, rfl⟩
    rw [← e8]
    have H := H h7 e8
    have G9 : mxG h7 := e8 ▸ mxG_wi G5
    obtain ⟨o10, H⟩ := H
    refine wp_steps (i' := 22) (ls' := [some (.ref (a + 1)), some (.int i1), some (.int i2), some (.int i3), some (.int i4)]) (st' := []) (h' := mx_wi h7 (a + 4) (mx_i h7 (a + 1) 0).toNatClampNeg i3) (P := ((mxT (a + 1)).1 = 5 ∧ mxG h7) ∧ ((mxT (a + 1)).1 = 5 ∧ mxG h7) ∧ (((mxT (a + 4)).1 = 50 ∧ mxG h7) ∧ vp_in (mx_i h7 (a + 1) 0) (mxT (a + 4)).2) ∧ True) 6 rfl rfl ⟨⟨(congrArg Prod.fst (sV_1 hVa)), G9⟩, ⟨(congrArg Prod.fst (sV_1 hVa)), G9⟩, (cA (sV_4 hVa) G9 o10), trivial⟩ ?_
    obtain ⟨h11, e12⟩ : ∃ z9, z9 = mx_wi h7 (a + 4) (mx_i h7 (a + 1) 0).toNatClampNeg i3 := ⟨_, rfl⟩
    rw [← e12]
    have H := H h11 e12
    have G13 : mxG h11 := e12 ▸ mxG_wi G9
    obtain ⟨o14, H⟩ := H
    refine wp_steps (i' := 28) (ls' := [some (.ref (a + 1)), some (.int i1), some (.int i2), some (.int i3), some (.int i4)]) (st' := []) (h' := mx_wi h11 (a + 5) (mx_i h11 (a + 1) 0).toNatClampNeg i4) (P := ((mxT (a + 1)).1 = 5 ∧ mxG h11) ∧ ((mxT (a + 1)).1 = 5 ∧ mxG h11) ∧ (((mxT (a + 5)).1 = 50 ∧ mxG h11) ∧ vp_in (mx_i h11 (a + 1) 0) (mxT (a + 5)).2) ∧ True) 6 rfl rfl ⟨⟨(congrArg Prod.fst (sV_1 hVa)), G13⟩, ⟨(congrArg Prod.fst (sV_1 hVa)), G13⟩, (cA (sV_5 hVa) G13 o14), trivial⟩ ?_
    obtain ⟨h15, e16⟩ : ∃ z9, z9 = mx_wi h11 (a + 5) (mx_i h11 (a + 1) 0).toNatClampNeg i4 := ⟨_, rfl⟩
    rw [← e16]
    have H := H h15 e16
    have G17 : mxG h15 := e16 ▸ mxG_wi G13
    obtain ⟨o18, H⟩ := H
    refine wp_steps (i' := 34) (ls' := [some (.ref (a + 1)), some (.int i1), some (.int i2), some (.int i3), some (.int i4)]) (st' := []) (h' := mx_wi h15 (a + 6) (mx_i h15 (a + 1) 0).toNatClampNeg 0) (P := ((mxT (a + 1)).1 = 5 ∧ mxG h15) ∧ ((mxT (a + 1)).1 = 5 ∧ mxG h15) ∧ (((mxT (a + 6)).1 = 50 ∧ mxG h15) ∧ vp_in (mx_i h15 (a + 1) 0) (mxT (a + 6)).2) ∧ True) 6 rfl rfl ⟨⟨(congrArg Prod.fst (sV_1 hVa)), G17⟩, ⟨(congrArg Prod.fst (sV_1 hVa)), G17⟩, (cA (sV_6 hVa) G17 o18), trivial⟩ ?_
    obtain ⟨h19, e20⟩ : ∃ z9, z9 = mx_wi h15 (a + 6) (mx_i h15 (a + 1) 0).toNatClampNeg 0 := ⟨_, rfl⟩
    rw [← e20]
    have H := H h19 e20
    have G21 : mxG h19 := e20 ▸ mxG_wi G17
    refine wp_steps (i' := 37) (ls' := [some (.ref (a + 1)), some (.int i1), some (.int i2), some (.int i3), some (.int i4)]) (st' := [.int (mx_i h19 (a + 1) 0), .ref (a + 1)]) (h' := h19) (P := ((mxT (a + 1)).1 = 5 ∧ mxG h19) ∧ True) 3 rfl rfl ⟨⟨(congrArg Prod.fst (sV_1 hVa)), G21⟩, trivial⟩ ?_
    refine wp_call (b := false) (y' := 51) (as := [.ref (a + 1), .int (mx_i h19 (a + 1) 0)]) (rest := []) (P := ((mxT (a + 1)).1 = mxRc 51 ∧ mxG h19)) rfl (by with_unfolding_all rfl) ⟨(congrArg Prod.fst (sV_1 hVa)), G21⟩ (Nat.le_of_ble_eq_true rfl) (sp_51 G21 hVa ?_)
    show mx_wp (d + 1) 45 38 [some (.ref (a + 1)), some (.int i1), some (.int i2), some (.int i3), some (.int i4)] [] (W_51 h19 a (mx_i h19 (a + 1) 0)) Q
    obtain ⟨h22, e23⟩ : ∃ z9, z9 = W_51 h19 a (mx_i h19 (a + 1) 0) := ⟨_, rfl⟩
    rw [← e23]
    have H := H h22 e23
    have K25 : mxK h19 h22 := e23 ▸ KW_51
    have G24 : mxG h22 := mxK_G K25 G21
    refine wp_steps (i' := 44) (ls' := [some (.ref (a + 1)), some (.int i1), some (.int i2), some (.int i3), some (.int i4)]) (st' := []) (h' := mx_wi h22 (a + 1) 0 ((mx_i h22 (a + 1) 0) + 1)) (P := ((mxT (a + 1)).1 = 5 ∧ mxG h22) ∧ ((mxT (a + 1)).1 = 5 ∧ mxG h22) ∧ True) 6 rfl rfl ⟨⟨(congrArg Prod.fst (sV_1 hVa)), G24⟩, ⟨(congrArg Prod.fst (sV_1 hVa)), G24⟩, trivial⟩ ?_
    obtain ⟨h26, e27⟩ : ∃ z9, z9 = mx_wi h22 (a + 1) 0 ((mx_i h22 (a + 1) 0) + 1) := ⟨_, rfl⟩
    rw [← e27]
    have H := H h26 e27
    have G28 : mxG h26 := e27 ▸ mxG_wi G24
    exact wp_end (o := .inl none) (h' := h26) (P := True) rfl rfl trivial H
def W_45 (h : mxH) (a : Nat) (i1 : Int32) (i2 : Int32) (i3 : Int32) (i4 : Int32) : mxH := (if (mx_i h (a + 1) 0) < 6 then (mx_wi (W_51 (mx_wi (mx_wi (mx_wi (mx_wi (mx_wi h (a + 2) (mx_i h (a + 1) 0).toNatClampNeg i1) (a + 3) (mx_i (mx_wi h (a + 2) (mx_i h (a + 1) 0).toNatClampNeg i1) (a + 1) 0).toNatClampNeg i2) (a + 4) (mx_i (mx_wi (mx_wi h (a + 2) (mx_i h (a + 1) 0).toNatClampNeg i1) (a + 3) (mx_i (mx_wi h (a + 2) (mx_i h (a + 1) 0).toNatClampNeg i1) (a + 1) 0).toNatClampNeg i2) (a + 1) 0).toNatClampNeg i3) (a + 5) (mx_i (mx_wi (mx_wi (mx_wi h (a + 2) (mx_i h (a + 1) 0).toNatClampNeg i1) (a + 3) (mx_i (mx_wi h (a + 2) (mx_i h (a + 1) 0).toNatClampNeg i1) (a + 1) 0).toNatClampNeg i2) (a + 4) (mx_i (mx_wi (mx_wi h (a + 2) (mx_i h (a + 1) 0).toNatClampNeg i1) (a + 3) (mx_i (mx_wi h (a + 2) (mx_i h (a + 1) 0).toNatClampNeg i1) (a + 1) 0).toNatClampNeg i2) (a + 1) 0).toNatClampNeg i3) (a + 1) 0).toNatClampNeg i4) (a + 6) (mx_i (mx_wi (mx_wi (mx_wi (mx_wi h (a + 2) (mx_i h (a + 1) 0).toNatClampNeg i1) (a + 3) (mx_i (mx_wi h (a + 2) (mx_i h (a + 1) 0).toNatClampNeg i1) (a + 1) 0).toNatClampNeg i2) (a + 4) (mx_i (mx_wi (mx_wi h (a + 2) (mx_i h (a + 1) 0).toNatClampNeg i1) (a + 3) (mx_i (mx_wi h (a + 2) (mx_i h (a + 1) 0).toNatClampNeg i1) (a + 1) 0).toNatClampNeg i2) (a + 1) 0).toNatClampNeg i3) (a + 5) (mx_i (mx_wi (mx_wi (mx_wi h (a + 2) (mx_i h (a + 1) 0).toNatClampNeg i1) (a + 3) (mx_i (mx_wi h (a + 2) (mx_i h (a + 1) 0).toNatClampNeg i1) (a + 1) 0).toNatClampNeg i2) (a + 4) (mx_i (mx_wi (mx_wi h (a + 2) (mx_i h (a + 1) 0).toNatClampNeg i1) (a + 3) (mx_i (mx_wi h (a + 2) (mx_i h (a + 1) 0).toNatClampNeg i1) (a + 1) 0).toNatClampNeg i2) (a + 1) 0).toNatClampNeg i3) (a + 1) 0).toNatClampNeg i4) (a + 1) 0).toNatClampNeg 0) a (mx_i (mx_wi (mx_wi (mx_wi (mx_wi (mx_wi h (a + 2) (mx_i h (a + 1) 0).toNatClampNeg i1) (a + 3) (mx_i (mx_wi h (a + 2) (mx_i h (a + 1) 0).toNatClampNeg i1) (a + 1) 0).toNatClampNeg i2) (a + 4) (mx_i (mx_wi (mx_wi h (a + 2) (mx_i h (a + 1) 0).toNatClampNeg i1) (a + 3) (mx_i (mx_wi h (a + 2) (mx_i h (a + 1) 0).toNatClampNeg i1) (a + 1) 0).toNatClampNeg i2) (a + 1) 0).toNatClampNeg i3) (a + 5) (mx_i (mx_wi (mx_wi (mx_wi h (a + 2) (mx_i h (a + 1) 0).toNatClampNeg i1) (a + 3) (mx_i (mx_wi h (a + 2) (mx_i h (a + 1) 0).toNatClampNeg i1) (a + 1) 0).toNatClampNeg i2) (a + 4) (mx_i (mx_wi (mx_wi h (a + 2) (mx_i h (a + 1) 0).toNatClampNeg i1) (a + 3) (mx_i (mx_wi h (a + 2) (mx_i h (a + 1) 0).toNatClampNeg i1) (a + 1) 0).toNatClampNeg i2) (a + 1) 0).toNatClampNeg i3) (a + 1) 0).toNatClampNeg i4) (a + 6) (mx_i (mx_wi (mx_wi (mx_wi (mx_wi h (a + 2) (mx_i h (a + 1) 0).toNatClampNeg i1) (a + 3) (mx_i (mx_wi h (a + 2) (mx_i h (a + 1) 0).toNatClampNeg i1) (a + 1) 0).toNatClampNeg i2) (a + 4) (mx_i (mx_wi (mx_wi h (a + 2) (mx_i h (a + 1) 0).toNatClampNeg i1) (a + 3) (mx_i (mx_wi h (a + 2) (mx_i h (a + 1) 0).toNatClampNeg i1) (a + 1) 0).toNatClampNeg i2) (a + 1) 0).toNatClampNeg i3) (a + 5) (mx_i (mx_wi (mx_wi (mx_wi h (a + 2) (mx_i h (a + 1) 0).toNatClampNeg i1) (a + 3) (mx_i (mx_wi h (a + 2) (mx_i h (a + 1) 0).toNatClampNeg i1) (a + 1) 0).toNatClampNeg i2) (a + 4) (mx_i (mx_wi (mx_wi h (a + 2) (mx_i h (a + 1) 0).toNatClampNeg i1) (a + 3) (mx_i (mx_wi h (a + 2) (mx_i h (a + 1) 0).toNatClampNeg i1) (a + 1) 0).toNatClampNeg i2) (a + 1) 0).toNatClampNeg i3) (a + 1) 0).toNatClampNeg i4) (a + 1) 0).toNatClampNeg 0) (a + 1) 0)) (a + 1) 0 ((mx_i (W_51 (mx_wi (mx_wi (mx_wi (mx_wi (mx_wi h (a + 2) (mx_i h (a + 1) 0).toNatClampNeg i1) (a + 3) (mx_i (mx_wi h (a + 2) (mx_i h (a + 1) 0).toNatClampNeg i1) (a + 1) 0).toNatClampNeg i2) (a + 4) (mx_i (mx_wi (mx_wi h (a + 2) (mx_i h (a + 1) 0).toNatClampNeg i1) (a + 3) (mx_i (mx_wi h (a + 2) (mx_i h (a + 1) 0).toNatClampNeg i1) (a + 1) 0).toNatClampNeg i2) (a + 1) 0).toNatClampNeg i3) (a + 5) (mx_i (mx_wi (mx_wi (mx_wi h (a + 2) (mx_i h (a + 1) 0).toNatClampNeg i1) (a + 3) (mx_i (mx_wi h (a + 2) (mx_i h (a + 1) 0).toNatClampNeg i1) (a + 1) 0).toNatClampNeg i2) (a + 4) (mx_i (mx_wi (mx_wi h (a + 2) (mx_i h (a + 1) 0).toNatClampNeg i1) (a + 3) (mx_i (mx_wi h (a + 2) (mx_i h (a + 1) 0).toNatClampNeg i1) (a + 1) 0).toNatClampNeg i2) (a + 1) 0).toNatClampNeg i3) (a + 1) 0).toNatClampNeg i4) (a + 6) (mx_i (mx_wi (mx_wi (mx_wi (mx_wi h (a + 2) (mx_i h (a + 1) 0).toNatClampNeg i1) (a + 3) (mx_i (mx_wi h (a + 2) (mx_i h (a + 1) 0).toNatClampNeg i1) (a + 1) 0).toNatClampNeg i2) (a + 4) (mx_i (mx_wi (mx_wi h (a + 2) (mx_i h (a + 1) 0).toNatClampNeg i1) (a + 3) (mx_i (mx_wi h (a + 2) (mx_i h (a + 1) 0).toNatClampNeg i1) (a + 1) 0).toNatClampNeg i2) (a + 1) 0).toNatClampNeg i3) (a + 5) (mx_i (mx_wi (mx_wi (mx_wi h (a + 2) (mx_i h (a + 1) 0).toNatClampNeg i1) (a + 3) (mx_i (mx_wi h (a + 2) (mx_i h (a + 1) 0).toNatClampNeg i1) (a + 1) 0).toNatClampNeg i2) (a + 4) (mx_i (mx_wi (mx_wi h (a + 2) (mx_i h (a + 1) 0).toNatClampNeg i1) (a + 3) (mx_i (mx_wi h (a + 2) (mx_i h (a + 1) 0).toNatClampNeg i1) (a + 1) 0).toNatClampNeg i2) (a + 1) 0).toNatClampNeg i3) (a + 1) 0).toNatClampNeg i4) (a + 1) 0).toNatClampNeg 0) a (mx_i (mx_wi (mx_wi (mx_wi (mx_wi (mx_wi h (a + 2) (mx_i h (a + 1) 0).toNatClampNeg i1) (a + 3) (mx_i (mx_wi h (a + 2) (mx_i h (a + 1) 0).toNatClampNeg i1) (a + 1) 0).toNatClampNeg i2) (a + 4) (mx_i (mx_wi (mx_wi h (a + 2) (mx_i h (a + 1) 0).toNatClampNeg i1) (a + 3) (mx_i (mx_wi h (a + 2) (mx_i h (a + 1) 0).toNatClampNeg i1) (a + 1) 0).toNatClampNeg i2) (a + 1) 0).toNatClampNeg i3) (a + 5) (mx_i (mx_wi (mx_wi (mx_wi h (a + 2) (mx_i h (a + 1) 0).toNatClampNeg i1) (a + 3) (mx_i (mx_wi h (a + 2) (mx_i h (a + 1) 0).toNatClampNeg i1) (a + 1) 0).toNatClampNeg i2) (a + 4) (mx_i (mx_wi (mx_wi h (a + 2) (mx_i h (a + 1) 0).toNatClampNeg i1) (a + 3) (mx_i (mx_wi h (a + 2) (mx_i h (a + 1) 0).toNatClampNeg i1) (a + 1) 0).toNatClampNeg i2) (a + 1) 0).toNatClampNeg i3) (a + 1) 0).toNatClampNeg i4) (a + 6) (mx_i (mx_wi (mx_wi (mx_wi (mx_wi h (a + 2) (mx_i h (a + 1) 0).toNatClampNeg i1) (a + 3) (mx_i (mx_wi h (a + 2) (mx_i h (a + 1) 0).toNatClampNeg i1) (a + 1) 0).toNatClampNeg i2) (a + 4) (mx_i (mx_wi (mx_wi h (a + 2) (mx_i h (a + 1) 0).toNatClampNeg i1) (a + 3) (mx_i (mx_wi h (a + 2) (mx_i h (a + 1) 0).toNatClampNeg i1) (a + 1) 0).toNatClampNeg i2) (a + 1) 0).toNatClampNeg i3) (a + 5) (mx_i (mx_wi (mx_wi (mx_wi h (a + 2) (mx_i h (a + 1) 0).toNatClampNeg i1) (a + 3) (mx_i (mx_wi h (a + 2) (mx_i h (a + 1) 0).toNatClampNeg i1) (a + 1) 0).toNatClampNeg i2) (a + 4) (mx_i (mx_wi (mx_wi h (a + 2) (mx_i h (a + 1) 0).toNatClampNeg i1) (a + 3) (mx_i (mx_wi h (a + 2) (mx_i h (a + 1) 0).toNatClampNeg i1) (a + 1) 0).toNatClampNeg i2) (a + 1) 0).toNatClampNeg i3) (a + 1) 0).toNatClampNeg i4) (a + 1) 0).toNatClampNeg 0) (a + 1) 0)) (a + 1) 0) + 1)) else h)
theorem KW_45 {h : mxH} {a : Nat} {i1 : Int32} {i2 : Int32} {i3 : Int32} {i4 : Int32} : mxK h (W_45 h a i1 i2 i3 i4) := by
  unfold W_45
  repeat' (first | with_reducible exact mxK_rfl | with_reducible exact mxK_wi | with_reducible exact mxK_wrow | with_reducible refine mxK_ite ?_ ?_ | with_reducible refine mxK_tr ?_ mxK_wi | with_reducible refine mxK_tr ?_ mxK_wrow | with_reducible exact KW_51 | with_reducible refine mxK_tr ?_ KW_51)
theorem sp_45 {d : Nat} {h : mxH} {Q : mxO → mxH → Prop} {a : Nat} {i1 : Int32} {i2 : Int32} {i3 : Int32} {i4 : Int32} (G : mxG h) (hVa : (mxT a).1 = 9) (x0 : (((mx_i h (a + 1) 0) < 6 → (vp_in (mx_i h (a + 1) 0) 6 ∧ (vp_in (mx_i (mx_wi h (a + 2) (mx_i h (a + 1) 0).toNatClampNeg i1) (a + 1) 0) 6 ∧ (vp_in (mx_i (mx_wi (mx_wi h (a + 2) (mx_i h (a + 1) 0).toNatClampNeg i1) (a + 3) (mx_i (mx_wi h (a + 2) (mx_i h (a + 1) 0).toNatClampNeg i1) (a + 1) 0).toNatClampNeg i2) (a + 1) 0) 6 ∧ (vp_in (mx_i (mx_wi (mx_wi (mx_wi h (a + 2) (mx_i h (a + 1) 0).toNatClampNeg i1) (a + 3) (mx_i (mx_wi h (a + 2) (mx_i h (a + 1) 0).toNatClampNeg i1) (a + 1) 0).toNatClampNeg i2) (a + 4) (mx_i (mx_wi (mx_wi h (a + 2) (mx_i h (a + 1) 0).toNatClampNeg i1) (a + 3) (mx_i (mx_wi h (a + 2) (mx_i h (a + 1) 0).toNatClampNeg i1) (a + 1) 0).toNatClampNeg i2) (a + 1) 0).toNatClampNeg i3) (a + 1) 0) 6 ∧ (vp_in (mx_i (mx_wi (mx_wi (mx_wi (mx_wi h (a + 2) (mx_i h (a + 1) 0).toNatClampNeg i1) (a + 3) (mx_i (mx_wi h (a + 2) (mx_i h (a + 1) 0).toNatClampNeg i1) (a + 1) 0).toNatClampNeg i2) (a + 4) (mx_i (mx_wi (mx_wi h (a + 2) (mx_i h (a + 1) 0).toNatClampNeg i1) (a + 3) (mx_i (mx_wi h (a + 2) (mx_i h (a + 1) 0).toNatClampNeg i1) (a + 1) 0).toNatClampNeg i2) (a + 1) 0).toNatClampNeg i3) (a + 5) (mx_i (mx_wi (mx_wi (mx_wi h (a + 2) (mx_i h (a + 1) 0).toNatClampNeg i1) (a + 3) (mx_i (mx_wi h (a + 2) (mx_i h (a + 1) 0).toNatClampNeg i1) (a + 1) 0).toNatClampNeg i2) (a + 4) (mx_i (mx_wi (mx_wi h (a + 2) (mx_i h (a + 1) 0).toNatClampNeg i1) (a + 3) (mx_i (mx_wi h (a + 2) (mx_i h (a + 1) 0).toNatClampNeg i1) (a + 1) 0).toNatClampNeg i2) (a + 1) 0).toNatClampNeg i3) (a + 1) 0).toNatClampNeg i4) (a + 1) 0) 6 ∧ True)))))) ∧ (¬ (mx_i h (a + 1) 0) < 6 → True))) (k : Q (.inl none) (W_45 h a i1 i2 i3 i4)) : mx_wp (d + 1) 45 0 (mx_fr 45 [.ref (a + 1), .int i1, .int i2, .int i3, .int i4]) [] h Q := by
  unfold W_45 at k
  have hob : (((mx_i h (a + 1) 0) < 6 → (vp_in (mx_i h (a + 1) 0) 6 ∧ (vp_in (mx_i (mx_wi h (a + 2) (mx_i h (a + 1) 0).toNatClampNeg i1) (a + 1) 0) 6 ∧ (vp_in (mx_i (mx_wi (mx_wi h (a + 2) (mx_i h (a + 1) 0).toNatClampNeg i1) (a + 3) (mx_i (mx_wi h (a + 2) (mx_i h (a + 1) 0).toNatClampNeg i1) (a + 1) 0).toNatClampNeg i2) (a + 1) 0) 6 ∧ (vp_in (mx_i (mx_wi (mx_wi (mx_wi h (a + 2) (mx_i h (a + 1) 0).toNatClampNeg i1) (a + 3) (mx_i (mx_wi h (a + 2) (mx_i h (a + 1) 0).toNatClampNeg i1) (a + 1) 0).toNatClampNeg i2) (a + 4) (mx_i (mx_wi (mx_wi h (a + 2) (mx_i h (a + 1) 0).toNatClampNeg i1) (a + 3) (mx_i (mx_wi h (a + 2) (mx_i h (a + 1) 0).toNatClampNeg i1) (a + 1) 0).toNatClampNeg i2) (a + 1) 0).toNatClampNeg i3) (a + 1) 0) 6 ∧ (vp_in (mx_i (mx_wi (mx_wi (mx_wi (mx_wi h (a + 2) (mx_i h (a + 1) 0).toNatClampNeg i1) (a + 3) (mx_i (mx_wi h (a + 2) (mx_i h (a + 1) 0).toNatClampNeg i1) (a + 1) 0).toNatClampNeg i2) (a + 4) (mx_i (mx_wi (mx_wi h (a + 2) (mx_i h (a + 1) 0).toNatClampNeg i1) (a + 3) (mx_i (mx_wi h (a + 2) (mx_i h (a + 1) 0).toNatClampNeg i1) (a + 1) 0).toNatClampNeg i2) (a + 1) 0).toNatClampNeg i3) (a + 5) (mx_i (mx_wi (mx_wi (mx_wi h (a + 2) (mx_i h (a + 1) 0).toNatClampNeg i1) (a + 3) (mx_i (mx_wi h (a + 2) (mx_i h (a + 1) 0).toNatClampNeg i1) (a + 1) 0).toNatClampNeg i2) (a + 4) (mx_i (mx_wi (mx_wi h (a + 2) (mx_i h (a + 1) 0).toNatClampNeg i1) (a + 3) (mx_i (mx_wi h (a + 2) (mx_i h (a + 1) 0).toNatClampNeg i1) (a + 1) 0).toNatClampNeg i2) (a + 1) 0).toNatClampNeg i3) (a + 1) 0).toNatClampNeg i4) (a + 1) 0) 6 ∧ True)))))) ∧ (¬ (mx_i h (a + 1) 0) < 6 → True)) := x0
  refine tr_45_0 G hVa ?_
  refine ⟨fun c9 => ?_, fun c9 => ?_⟩
  · try simp only [if_pos c9] at k
    have hob := hob.1 c9
    obtain ⟨q0, hob⟩ := hob
    refine ⟨q0, ?_⟩
    intro h3 eh3
    subst eh3
    obtain ⟨q0, hob⟩ := hob
    refine ⟨q0, ?_⟩
    intro h7 eh7
    subst eh7
    obtain ⟨q0, hob⟩ := hob
    refine ⟨q0, ?_⟩
    intro h11 eh11
    subst eh11
    obtain ⟨q0, hob⟩ := hob
    refine ⟨q0, ?_⟩
    intro h15 eh15
    subst eh15
    obtain ⟨q0, hob⟩ := hob
    refine ⟨q0, ?_⟩
    intro h19 eh19
    subst eh19
    intro h22 eh22
    subst eh22
    intro h26 eh26
    subst eh26
    exact k
  · try simp only [if_neg c9] at k
    have hob := hob.2 c9
    exact k
/-! 46: StoneBacks$People.gain(II)V -/
set_option maxRecDepth 8000 in
theorem tr_46_0 {d : Nat} {h : mxH} {Q : mxO → mxH → Prop} {a : Nat} {i1 : Int32} {i2 : Int32} (G : mxG h) (hVa : (mxT a).1 = 9) (H : (vp_in i1 6 ∧ (∀ h2, h2 = mx_wi h (a + 2) i1.toNatClampNeg (if ((mx_i h (a + 2) i1.toNatClampNeg) + i2) < 9999 then ((mx_i h (a + 2) i1.toNatClampNeg) + i2) else 9999) → Q (.inl none) h2))) : mx_wp d 46 0 (mx_fr 46 [.ref (a + 1), .int i1, .int i2]) [] h Q := by
  show mx_wp d 46 0 [some (.ref (a + 1)), some (.int i1), some (.int i2)] [] h Q
  obtain ⟨o1, H⟩ := H
  refine wp_steps (i' := 12) (ls' := [some (.ref (a + 1)), some (.int i1), some (.int i2)]) (st' := []) (h' := mx_wi h (a + 2) i1.toNatClampNeg (if ((mx_i h (a + 2) i1.toNatClampNeg) + i2) < 9999 then ((mx_i h (a + 2) i1.toNatClampNeg) + i2) else 9999)) (P := ((mxT (a + 1)).1 = 5 ∧ mxG h) ∧ ((mxT (a + 1)).1 = 5 ∧ mxG h) ∧ (((mxT (a + 2)).1 = 50 ∧ mxG h) ∧ vp_in i1 (mxT (a + 2)).2) ∧ ((([.int i1, .ref (a + 2)] : List Value).map mx_cat).sum ≤ 8) ∧ (((mxT (a + 2)).1 = 50 ∧ mxG h) ∧ vp_in i1 (mxT (a + 2)).2) ∧ True) 12 rfl rfl ⟨⟨(congrArg Prod.fst (sV_1 hVa)), G⟩, ⟨(congrArg Prod.fst (sV_1 hVa)), G⟩, (cA (sV_2 hVa) G o1), (Nat.le_of_ble_eq_true rfl), (cA (sV_2 hVa) G o1), trivial⟩ ?_
  obtain ⟨h2, e3⟩ : ∃ z9, z9 = mx_wi h (a + 2) i1.toNatClampNeg (if ((mx_i h (a + 2) i1.toNatClampNeg) + i2) < 9999 then ((mx_i h (a + 2) i1.toNatClampNeg) + i2) else 9999) := ⟨_, rfl⟩
  rw [← e3]
  have H := H h2 e3
  have G4 : mxG h2 := e3 ▸ mxG_wi G
  exact wp_end (o := .inl none) (h' := h2) (P := True) rfl rfl trivial H
def W_46 (h : mxH) (a : Nat) (i1 : Int32) (i2 : Int32) : mxH := (mx_wi h (a + 2) i1.toNatClampNeg (if ((mx_i h (a + 2) i1.toNatClampNeg) + i2) < 9999 then ((mx_i h (a + 2) i1.toNatClampNeg) + i2) else 9999))
theorem KW_46 {h : mxH} {a : Nat} {i1 : Int32} {i2 : Int32} : mxK h (W_46 h a i1 i2) := by
  unfold W_46
  repeat' (first | with_reducible exact mxK_rfl | with_reducible exact mxK_wi | with_reducible exact mxK_wrow | with_reducible refine mxK_ite ?_ ?_ | with_reducible refine mxK_tr ?_ mxK_wi | with_reducible refine mxK_tr ?_ mxK_wrow)
theorem sp_46 {d : Nat} {h : mxH} {Q : mxO → mxH → Prop} {a : Nat} {i1 : Int32} {i2 : Int32} (G : mxG h) (hVa : (mxT a).1 = 9) (x0 : vp_in i1 6) (k : Q (.inl none) (W_46 h a i1 i2)) : mx_wp d 46 0 (mx_fr 46 [.ref (a + 1), .int i1, .int i2]) [] h Q := by
  unfold W_46 at k
  have hob : (vp_in i1 6 ∧ True) := ⟨x0, trivial⟩
  refine tr_46_0 G hVa ?_
  obtain ⟨q0, hob⟩ := hob
  refine ⟨q0, ?_⟩
  intro h2 eh2
  subst eh2
  exact k
/-! 47: StoneBacks$People.move(III)V -/
set_option maxRecDepth 8000 in
theorem tr_47_0 {d : Nat} {h : mxH} {Q : mxO → mxH → Prop} {a : Nat} {i1 : Int32} {i2 : Int32} {i3 : Int32} (G : mxG h) (hVa : (mxT a).1 = 9) (H : (vp_in i1 6 ∧ (∀ h2, h2 = mx_wi h (a + 2) i1.toNatClampNeg ((mx_i h (a + 2) i1.toNatClampNeg) - i3) → (vp_in i2 6 ∧ (∀ h6, h6 = W_46 h2 a i2 i3 → Q (.inl none) h6))))) : mx_wp (d + 1) 47 0 (mx_fr 47 [.ref (a + 1), .int i1, .int i2, .int i3]) [] h Q := by
  show mx_wp (d + 1) 47 0 [some (.ref (a + 1)), some (.int i1), some (.int i2), some (.int i3)] [] h Q
  obtain ⟨o1, H⟩ := H
  refine wp_steps (i' := 8) (ls' := [some (.ref (a + 1)), some (.int i1), some (.int i2), some (.int i3)]) (st' := []) (h' := mx_wi h (a + 2) i1.toNatClampNeg ((mx_i h (a + 2) i1.toNatClampNeg) - i3)) (P := ((mxT (a + 1)).1 = 5 ∧ mxG h) ∧ (((mxT (a + 2)).1 = 50 ∧ mxG h) ∧ vp_in i1 (mxT (a + 2)).2) ∧ (((mxT (a + 2)).1 = 50 ∧ mxG h) ∧ vp_in i1 (mxT (a + 2)).2) ∧ True) 8 rfl rfl ⟨⟨(congrArg Prod.fst (sV_1 hVa)), G⟩, (cA (sV_2 hVa) G o1), (cA (sV_2 hVa) G o1), trivial⟩ ?_
  obtain ⟨h2, e3⟩ : ∃ z9, z9 = mx_wi h (a + 2) i1.toNatClampNeg ((mx_i h (a + 2) i1.toNatClampNeg) - i3) := ⟨_, rfl⟩
  rw [← e3]
  have H := H h2 e3
  have G4 : mxG h2 := e3 ▸ mxG_wi G
  refine wp_steps (i' := 11) (ls' := [some (.ref (a + 1)), some (.int i1), some (.int i2), some (.int i3)]) (st' := [.int i3, .int i2, .ref (a + 1)]) (h' := h2) (P := True) 3 rfl rfl trivial ?_
  obtain ⟨o5, H⟩ := H
  refine wp_call (b := false) (y' := 46) (as := [.ref (a + 1), .int i2, .int i3]) (rest := []) (P := ((mxT (a + 1)).1 = mxRc 46 ∧ mxG h2)) rfl (by with_unfolding_all rfl) ⟨(congrArg Prod.fst (sV_1 hVa)), G4⟩ (Nat.le_of_ble_eq_true rfl) (sp_46 G4 hVa o5 ?_)
  show mx_wp (d + 1) 47 12 [some (.ref (a + 1)), some (.int i1), some (.int i2), some (.int i3)] [] (W_46 h2 a i2 i3) Q
  obtain ⟨h6, e7⟩ : ∃ z9, z9 = W_46 h2 a i2 i3 := ⟨_, rfl⟩
  rw [← e7]
  have H := H h6 e7
  have K9 : mxK h2 h6 := e7 ▸ KW_46
  have G8 : mxG h6 := mxK_G K9 G4
  exact wp_end (o := .inl none) (h' := h6) (P := True) rfl rfl trivial H
def W_47 (h : mxH) (a : Nat) (i1 : Int32) (i2 : Int32) (i3 : Int32) : mxH := (W_46 (mx_wi h (a + 2) i1.toNatClampNeg ((mx_i h (a + 2) i1.toNatClampNeg) - i3)) a i2 i3)
theorem KW_47 {h : mxH} {a : Nat} {i1 : Int32} {i2 : Int32} {i3 : Int32} : mxK h (W_47 h a i1 i2 i3) := by
  unfold W_47
  repeat' (first | with_reducible exact mxK_rfl | with_reducible exact mxK_wi | with_reducible exact mxK_wrow | with_reducible refine mxK_ite ?_ ?_ | with_reducible refine mxK_tr ?_ mxK_wi | with_reducible refine mxK_tr ?_ mxK_wrow | with_reducible exact KW_46 | with_reducible refine mxK_tr ?_ KW_46)
theorem sp_47 {d : Nat} {h : mxH} {Q : mxO → mxH → Prop} {a : Nat} {i1 : Int32} {i2 : Int32} {i3 : Int32} (G : mxG h) (hVa : (mxT a).1 = 9) (x0 : vp_in i1 6) (x1 : vp_in i2 6) (k : Q (.inl none) (W_47 h a i1 i2 i3)) : mx_wp (d + 1) 47 0 (mx_fr 47 [.ref (a + 1), .int i1, .int i2, .int i3]) [] h Q := by
  unfold W_47 at k
  have hob : (vp_in i1 6 ∧ (vp_in i2 6 ∧ True)) := ⟨x0, ⟨x1, trivial⟩⟩
  refine tr_47_0 G hVa ?_
  obtain ⟨q0, hob⟩ := hob
  refine ⟨q0, ?_⟩
  intro h2 eh2
  subst eh2
  obtain ⟨q0, hob⟩ := hob
  refine ⟨q0, ?_⟩
  intro h6 eh6
  subst eh6
  exact k
/-! 48: StoneBacks$People.bitsAt(I)I -/
def H_48_4 (d : Nat) (h : mxH) (a : Nat) (i1 : Int32) (i2 : Int32) (i3 : Int32) (Q : mxO → mxH → Prop) : Prop := mx_wp d 48 4 [some (.ref (a + 1)), some (.int i1), some (.int i2), some (.int i3)] [] h Q
set_option maxRecDepth 8000 in
theorem tr_48_0 {d : Nat} {h : mxH} {Q : mxO → mxH → Prop} {a : Nat} {i1 : Int32} (G : mxG h) (hVa : (mxT a).1 = 9) (H : H_48_4 d h a i1 0 0 Q) : mx_wp d 48 0 (mx_fr 48 [.ref (a + 1), .int i1]) [] h Q := by
  show mx_wp d 48 0 [some (.ref (a + 1)), some (.int i1), none, none] [] h Q
  refine wp_steps (i' := 4) (ls' := [some (.ref (a + 1)), some (.int i1), some (.int 0), some (.int 0)]) (st' := []) (h' := h) (P := True) 4 rfl rfl trivial ?_
  exact H 
set_option maxRecDepth 8000 in
theorem tr_48_4 {d : Nat} {h : mxH} {Q : mxO → mxH → Prop} {a : Nat} {i1 : Int32} {i2 : Int32} {i3 : Int32} (G : mxG h) (hVa : (mxT a).1 = 9) (H : ((i3 < (mx_i h (a + 1) 0) → (vp_in i3 6 ∧ (∀ (v3 : Int32), v3 = ((if (mx_i h (a + 4) i3.toNatClampNeg) = i1 then (i2 ||| ((1 : Int32) <<< (i3 &&& 31))) else i2) : Int32) → H_48_4 d h a i1 v3 (i3 + 1) Q))) ∧ (¬ i3 < (mx_i h (a + 1) 0) → Q (.inl (some (.int i2))) h))) : H_48_4 d h a i1 i2 i3 Q := by
  show mx_wp d 48 4 [some (.ref (a + 1)), some (.int i1), some (.int i2), some (.int i3)] [] h Q
  refine wp_steps (i' := 7) (ls' := [some (.ref (a + 1)), some (.int i1), some (.int i2), some (.int i3)]) (st' := [.int (mx_i h (a + 1) 0), .int i3]) (h' := h) (P := ((mxT (a + 1)).1 = 5 ∧ mxG h) ∧ True) 3 rfl rfl ⟨⟨(congrArg Prod.fst (sV_1 hVa)), G⟩, trivial⟩ ?_
  refine wp_br (P := True) (c := (mx_i h (a + 1) 0) ≤ i3) (t := 22) (st' := []) rfl rfl trivial (fun c1 => ?_) (fun c1 => ?_)
  · have c1 := Int32.not_lt.mpr c1
    have H := H.2 c1
    refine wp_steps (i' := 23) (ls' := [some (.ref (a + 1)), some (.int i1), some (.int i2), some (.int i3)]) (st' := [.int i2]) (h' := h) (P := True) 1 rfl rfl trivial ?_
    exact wp_end (o := .inl (some (.int i2))) (h' := h) (P := True) rfl rfl trivial H
  · have c1 := Int32.not_le.mp c1
    have H := H.1 c1
    obtain ⟨o2, H⟩ := H
    refine wp_steps (i' := 13) (ls' := [some (.ref (a + 1)), some (.int i1), some (.int i2), some (.int i3)]) (st' := [.int i1, .int (mx_i h (a + 4) i3.toNatClampNeg)]) (h' := h) (P := ((mxT (a + 1)).1 = 5 ∧ mxG h) ∧ (((mxT (a + 4)).1 = 50 ∧ mxG h) ∧ vp_in i3 (mxT (a + 4)).2) ∧ True) 5 rfl rfl ⟨⟨(congrArg Prod.fst (sV_1 hVa)), G⟩, (cA (sV_4 hVa) G o2), trivial⟩ ?_
    have J : ∀ (v3 : Int32) (ev3 : v3 = ((if (mx_i h (a + 4) i3.toNatClampNeg) = i1 then (i2 ||| ((1 : Int32) <<< (i3 &&& 31))) else i2) : Int32)), mx_wp d 48 20 [some (.ref (a + 1)), some (.int i1), some (.int v3), some (.int i3)] [] h Q := by
      intro v3 ev3
      have H := H v3 ev3
      refine wp_steps (i' := 21) (ls' := [some (.ref (a + 1)), some (.int i1), some (.int v3), some (.int (i3 + 1))]) (st' := []) (h' := h) (P := True) 1 rfl rfl trivial ?_
      refine wp_J (j := 4) (st' := []) rfl rfl ?_
      exact H 
    refine wp_br (P := True) (c := ¬ (mx_i h (a + 4) i3.toNatClampNeg) = i1) (t := 20) (st' := []) rfl rfl trivial (fun c4 => ?_) (fun c4 => ?_)
    · skip
      exact J _ (by rw [if_neg c4])
    · have c4 := Decidable.of_not_not c4
      refine wp_steps (i' := 20) (ls' := [some (.ref (a + 1)), some (.int i1), some (.int (i2 ||| ((1 : Int32) <<< (i3 &&& 31)))), some (.int i3)]) (st' := []) (h' := h) (P := True) 6 rfl rfl trivial ?_
      exact J _ (by rw [if_pos c4])
def F_48_4 (h : mxH) (a : Nat) (i1 : Int32) (z : Nat) (s : Int32) : Int32 := ((if (mx_i h (a + 4) (nI z).toNatClampNeg) = i1 then (s ||| ((1 : Int32) <<< ((nI z) &&& 31))) else s) : Int32)
theorem lp_48_4 {d : Nat} {h : mxH} {Q : mxO → mxH → Prop} {a : Nat} {i1 : Int32} {s0 : Int32} {n : Nat} (z0 : Nat) (G : mxG h) (hVa : (mxT a).1 = 9) (hB : (mx_i h (a + 1) 0) = nI n) (hn : n < 2147483648) (hz : z0 ≤ n) (ob : ∀ z, z0 ≤ z → z < n → (vp_in (nI z) 6 ∧ True)) (k : Q (.inl (some (.int (fz (F_48_4 h a i1) z0 n s0)))) h) : H_48_4 d h a i1 s0 (nI z0) Q := by
  have L : ∀ (j z : Nat), z0 ≤ z → z + j = n → H_48_4 d h a i1 (fz (F_48_4 h a i1) z0 z s0) (nI z) Q := by
    intro j
    induction j with
    | zero =>
      intro z hz0 hzn
      have hzn : z = n := by omega
      subst hzn
      refine tr_48_4 G hVa ⟨fun c9 => absurd (hB ▸ c9) Int32.lt_irrefl, fun c9 => k⟩
    | succ j ih =>
      intro z hz0 hzn
      have hih := ih (z + 1) (by omega) (by omega)
      rw [nI_succ, fz_s hz0] at hih
      have hob := ob z hz0 (by omega)
      refine tr_48_4 G hVa ⟨fun c9 => ?_, fun c9 => absurd (hB.symm ▸ nI_lt (by omega) hn) c9⟩
      obtain ⟨q0, hob⟩ := hob
      refine ⟨q0, ?_⟩
      intro v3 ev3
      subst ev3
      exact hih
  have L0 := L (n - z0) z0 (Nat.le_refl _) (by omega)
  simp only [fz_0] at L0
  exact L0
def V_48 (h : mxH) (a : Nat) (i1 : Int32) : Int32 := (fo (F_48_4 h a i1) ((mx_i h (a + 1) 0)).toNatClampNeg 0)
theorem sp_48 {d : Nat} {h : mxH} {Q : mxO → mxH → Prop} {a : Nat} {i1 : Int32} (G : mxG h) (hVa : (mxT a).1 = 9) (hcb : cB (mx_i h (a + 1) 0) 6) (k : Q (.inl (some (.int (V_48 h a i1)))) h) : mx_wp d 48 0 (mx_fr 48 [.ref (a + 1), .int i1]) [] h Q := by
  unfold V_48 at k
  obtain ⟨n, hn, hB⟩ := hcb
  rw [hB, nI_clamp (by omega)] at k
  refine tr_48_0 G hVa ?_
  refine lp_48_4 (s0 := 0) 0 G hVa hB (by omega) (Nat.zero_le _) (fun z _ hz => ⟨vp_in_nI (by omega) (by decide), trivial⟩) ?_
  simp only [fz_fo]
  exact k
/-! 49: StoneBacks$People.isHurt(I)Z -/
set_option maxRecDepth 8000 in
theorem tr_49_0 {d : Nat} {h : mxH} {Q : mxO → mxH → Prop} {a : Nat} {i1 : Int32} (G : mxG h) (hVa : (mxT a).1 = 9) (H : (∀ (v1 : Int32), v1 = ((if (((mx_i h (a + 1) 6) >>> (i1 &&& 31)) &&& 1) = 1 then 1 else 0) : Int32) → Q (.inl (some (.int v1))) h)) : mx_wp d 49 0 (mx_fr 49 [.ref (a + 1), .int i1]) [] h Q := by
  show mx_wp d 49 0 [some (.ref (a + 1)), some (.int i1)] [] h Q
  refine wp_steps (i' := 7) (ls' := [some (.ref (a + 1)), some (.int i1)]) (st' := [.int 1, .int (((mx_i h (a + 1) 6) >>> (i1 &&& 31)) &&& 1)]) (h' := h) (P := ((mxT (a + 1)).1 = 5 ∧ mxG h) ∧ True) 7 rfl rfl ⟨⟨(congrArg Prod.fst (sV_1 hVa)), G⟩, trivial⟩ ?_
  have J : ∀ (v1 : Int32) (ev1 : v1 = ((if (((mx_i h (a + 1) 6) >>> (i1 &&& 31)) &&& 1) = 1 then 1 else 0) : Int32)), mx_wp d 49 11 [some (.ref (a + 1)), some (.int i1)] [.int v1] h Q := by
    intro v1 ev1
    have H := H v1 ev1
    exact wp_end (o := .inl (some (.int v1))) (h' := h) (P := (v1 = 0 ∨ v1 = 1)) rfl rfl (b01 ev1 (by repeat' (first | exact Or.inl rfl | exact Or.inr rfl | split))) H
  refine wp_br (P := True) (c := ¬ (((mx_i h (a + 1) 6) >>> (i1 &&& 31)) &&& 1) = 1) (t := 10) (st' := []) rfl rfl trivial (fun c2 => ?_) (fun c2 => ?_)
  · skip
    refine wp_steps (i' := 11) (ls' := [some (.ref (a + 1)), some (.int i1)]) (st' := [.int 0]) (h' := h) (P := True) 1 rfl rfl trivial ?_
    exact J _ (by rw [if_neg c2])
  · have c2 := Decidable.of_not_not c2
    refine wp_steps (i' := 9) (ls' := [some (.ref (a + 1)), some (.int i1)]) (st' := [.int 1]) (h' := h) (P := True) 1 rfl rfl trivial ?_
    refine wp_J (j := 11) (st' := [.int 1]) rfl rfl ?_
    exact J _ (by rw [if_pos c2])
def V_49 (h : mxH) (a : Nat) (i1 : Int32) : Int32 := ((if (((mx_i h (a + 1) 6) >>> (i1 &&& 31)) &&& 1) = 1 then 1 else 0) : Int32)
theorem sp_49 {d : Nat} {h : mxH} {Q : mxO → mxH → Prop} {a : Nat} {i1 : Int32} (G : mxG h) (hVa : (mxT a).1 = 9) (k : Q (.inl (some (.int (V_49 h a i1)))) h) : mx_wp d 49 0 (mx_fr 49 [.ref (a + 1), .int i1]) [] h Q := by
  unfold V_49 at k
  refine tr_49_0 G hVa ?_
  intro v1 ev1
  subst ev1
  exact k
/-! 50: StoneBacks$People.harm(I)V -/
set_option maxRecDepth 8000 in
theorem tr_50_0 {d : Nat} {h : mxH} {Q : mxO → mxH → Prop} {a : Nat} {i1 : Int32} (G : mxG h) (hVa : (mxT a).1 = 9) (H : (∀ h1, h1 = mx_wi h (a + 1) 6 ((mx_i h (a + 1) 6) ||| ((1 : Int32) <<< (i1 &&& 31))) → Q (.inl none) h1)) : mx_wp d 50 0 (mx_fr 50 [.ref (a + 1), .int i1]) [] h Q := by
  show mx_wp d 50 0 [some (.ref (a + 1)), some (.int i1)] [] h Q
  refine wp_steps (i' := 8) (ls' := [some (.ref (a + 1)), some (.int i1)]) (st' := []) (h' := mx_wi h (a + 1) 6 ((mx_i h (a + 1) 6) ||| ((1 : Int32) <<< (i1 &&& 31)))) (P := ((mxT (a + 1)).1 = 5 ∧ mxG h) ∧ ((mxT (a + 1)).1 = 5 ∧ mxG h) ∧ True) 8 rfl rfl ⟨⟨(congrArg Prod.fst (sV_1 hVa)), G⟩, ⟨(congrArg Prod.fst (sV_1 hVa)), G⟩, trivial⟩ ?_
  obtain ⟨h1, e2⟩ : ∃ z9, z9 = mx_wi h (a + 1) 6 ((mx_i h (a + 1) 6) ||| ((1 : Int32) <<< (i1 &&& 31))) := ⟨_, rfl⟩
  rw [← e2]
  have H := H h1 e2
  have G3 : mxG h1 := e2 ▸ mxG_wi G
  exact wp_end (o := .inl none) (h' := h1) (P := True) rfl rfl trivial H
def W_50 (h : mxH) (a : Nat) (i1 : Int32) : mxH := (mx_wi h (a + 1) 6 ((mx_i h (a + 1) 6) ||| ((1 : Int32) <<< (i1 &&& 31))))
theorem KW_50 {h : mxH} {a : Nat} {i1 : Int32} : mxK h (W_50 h a i1) := by
  unfold W_50
  repeat' (first | with_reducible exact mxK_rfl | with_reducible exact mxK_wi | with_reducible exact mxK_wrow | with_reducible refine mxK_ite ?_ ?_ | with_reducible refine mxK_tr ?_ mxK_wi | with_reducible refine mxK_tr ?_ mxK_wrow)
theorem sp_50 {d : Nat} {h : mxH} {Q : mxO → mxH → Prop} {a : Nat} {i1 : Int32} (G : mxG h) (hVa : (mxT a).1 = 9) (k : Q (.inl none) (W_50 h a i1)) : mx_wp d 50 0 (mx_fr 50 [.ref (a + 1), .int i1]) [] h Q := by
  unfold W_50 at k
  refine tr_50_0 G hVa ?_
  intro h1 eh1
  subst eh1
  exact k
/-! 52: StoneBacks$People.allPurses()I -/
def H_52_4 (d : Nat) (h : mxH) (a : Nat) (i1 : Int32) (i2 : Int32) (Q : mxO → mxH → Prop) : Prop := mx_wp d 52 4 [some (.ref (a + 1)), some (.int i1), some (.int i2)] [] h Q
set_option maxRecDepth 8000 in
theorem tr_52_0 {d : Nat} {h : mxH} {Q : mxO → mxH → Prop} {a : Nat} (G : mxG h) (hVa : (mxT a).1 = 9) (H : H_52_4 d h a 0 0 Q) : mx_wp d 52 0 (mx_fr 52 [.ref (a + 1)]) [] h Q := by
  show mx_wp d 52 0 [some (.ref (a + 1)), none, none] [] h Q
  refine wp_steps (i' := 4) (ls' := [some (.ref (a + 1)), some (.int 0), some (.int 0)]) (st' := []) (h' := h) (P := True) 4 rfl rfl trivial ?_
  exact H 
set_option maxRecDepth 8000 in
theorem tr_52_4 {d : Nat} {h : mxH} {Q : mxO → mxH → Prop} {a : Nat} {i1 : Int32} {i2 : Int32} (G : mxG h) (hVa : (mxT a).1 = 9) (H : ((i2 < (mx_i h (a + 1) 0) → (vp_in i2 6 ∧ H_52_4 d h a (i1 + (mx_i h (a + 2) i2.toNatClampNeg)) (i2 + 1) Q)) ∧ (¬ i2 < (mx_i h (a + 1) 0) → Q (.inl (some (.int i1))) h))) : H_52_4 d h a i1 i2 Q := by
  show mx_wp d 52 4 [some (.ref (a + 1)), some (.int i1), some (.int i2)] [] h Q
  refine wp_steps (i' := 7) (ls' := [some (.ref (a + 1)), some (.int i1), some (.int i2)]) (st' := [.int (mx_i h (a + 1) 0), .int i2]) (h' := h) (P := ((mxT (a + 1)).1 = 5 ∧ mxG h) ∧ True) 3 rfl rfl ⟨⟨(congrArg Prod.fst (sV_1 hVa)), G⟩, trivial⟩ ?_
  refine wp_br (P := True) (c := (mx_i h (a + 1) 0) ≤ i2) (t := 17) (st' := []) rfl rfl trivial (fun c1 => ?_) (fun c1 => ?_)
  · have c1 := Int32.not_lt.mpr c1
    have H := H.2 c1
    refine wp_steps (i' := 18) (ls' := [some (.ref (a + 1)), some (.int i1), some (.int i2)]) (st' := [.int i1]) (h' := h) (P := True) 1 rfl rfl trivial ?_
    exact wp_end (o := .inl (some (.int i1))) (h' := h) (P := True) rfl rfl trivial H
  · have c1 := Int32.not_le.mp c1
    have H := H.1 c1
    obtain ⟨o2, H⟩ := H
    refine wp_steps (i' := 16) (ls' := [some (.ref (a + 1)), some (.int (i1 + (mx_i h (a + 2) i2.toNatClampNeg))), some (.int (i2 + 1))]) (st' := []) (h' := h) (P := ((mxT (a + 1)).1 = 5 ∧ mxG h) ∧ (((mxT (a + 2)).1 = 50 ∧ mxG h) ∧ vp_in i2 (mxT (a + 2)).2) ∧ True) 8 rfl rfl ⟨⟨(congrArg Prod.fst (sV_1 hVa)), G⟩, (cA (sV_2 hVa) G o2), trivial⟩ ?_
    refine wp_J (j := 4) (st' := []) rfl rfl ?_
    exact H 
def F_52_4 (h : mxH) (a : Nat) (z : Nat) (s : Int32) : Int32 := (s + (mx_i h (a + 2) (nI z).toNatClampNeg))
theorem lp_52_4 {d : Nat} {h : mxH} {Q : mxO → mxH → Prop} {a : Nat} {s0 : Int32} {n : Nat} (z0 : Nat) (G : mxG h) (hVa : (mxT a).1 = 9) (hB : (mx_i h (a + 1) 0) = nI n) (hn : n < 2147483648) (hz : z0 ≤ n) (ob : ∀ z, z0 ≤ z → z < n → (vp_in (nI z) 6 ∧ True)) (k : Q (.inl (some (.int (fz (F_52_4 h a) z0 n s0)))) h) : H_52_4 d h a s0 (nI z0) Q := by
  have L : ∀ (j z : Nat), z0 ≤ z → z + j = n → H_52_4 d h a (fz (F_52_4 h a) z0 z s0) (nI z) Q := by
    intro j
    induction j with
    | zero =>
      intro z hz0 hzn
      have hzn : z = n := by omega
      subst hzn
      refine tr_52_4 G hVa ⟨fun c9 => absurd (hB ▸ c9) Int32.lt_irrefl, fun c9 => k⟩
    | succ j ih =>
      intro z hz0 hzn
      have hih := ih (z + 1) (by omega) (by omega)
      rw [nI_succ, fz_s hz0] at hih
      have hob := ob z hz0 (by omega)
      refine tr_52_4 G hVa ⟨fun c9 => ?_, fun c9 => absurd (hB.symm ▸ nI_lt (by omega) hn) c9⟩
      obtain ⟨q0, hob⟩ := hob
      refine ⟨q0, ?_⟩
      exact hih
  have L0 := L (n - z0) z0 (Nat.le_refl _) (by omega)
  simp only [fz_0] at L0
  exact L0
def V_52 (h : mxH) (a : Nat) : Int32 := (fo (F_52_4 h a) ((mx_i h (a + 1) 0)).toNatClampNeg 0)
theorem sp_52 {d : Nat} {h : mxH} {Q : mxO → mxH → Prop} {a : Nat} (G : mxG h) (hVa : (mxT a).1 = 9) (hcb : cB (mx_i h (a + 1) 0) 6) (k : Q (.inl (some (.int (V_52 h a)))) h) : mx_wp d 52 0 (mx_fr 52 [.ref (a + 1)]) [] h Q := by
  unfold V_52 at k
  obtain ⟨n, hn, hB⟩ := hcb
  rw [hB, nI_clamp (by omega)] at k
  refine tr_52_0 G hVa ?_
  refine lp_52_4 (s0 := 0) 0 G hVa hB (by omega) (Nat.zero_le _) (fun z _ hz => ⟨vp_in_nI (by omega) (by decide), trivial⟩) ?_
  simp only [fz_fo]
  exact k
/-! 87: StoneBacks$Tape.byteAt(I)I -/
set_option maxRecDepth 8000 in
theorem tr_87_0 {d : Nat} {h : mxH} {Q : mxO → mxH → Prop} {i1 : Int32} (G : mxG h)  (H : (((i1 < 0 → True) ∧ (¬ i1 < 0 → ((i1 < (mx_i h 101 1) → (vp_in i1 400 ∧ True)) ∧ (¬ i1 < (mx_i h 101 1) → True)))) ∧ (∀ (v1 : Int32), v1 = ((if i1 < 0 then (-1) else (if i1 < (mx_i h 101 1) then ((mx_i h 102 i1.toNatClampNeg) &&& 255) else (-1))) : Int32) → Q (.inl (some (.int v1))) h))) : mx_wp d 87 0 (mx_fr 87 [.ref 101, .int i1]) [] h Q := by
  show mx_wp d 87 0 [some (.ref 101), some (.int i1)] [] h Q
  refine wp_steps (i' := 1) (ls' := [some (.ref 101), some (.int i1)]) (st' := [.int i1]) (h' := h) (P := True) 1 rfl rfl trivial ?_
  have J : ∀ (v1 : Int32) (ev1 : v1 = ((if i1 < 0 then (-1) else (if i1 < (mx_i h 101 1) then ((mx_i h 102 i1.toNatClampNeg) &&& 255) else (-1))) : Int32)), mx_wp d 87 14 [some (.ref 101), some (.int i1)] [.int v1] h Q := by
    intro v1 ev1
    have H := H.2 v1 ev1
    exact wp_end (o := .inl (some (.int v1))) (h' := h) (P := True) rfl rfl trivial H
  have H := H.1
  refine wp_br (P := True) (c := i1 < 0) (t := 13) (st' := []) rfl rfl trivial (fun c2 => ?_) (fun c2 => ?_)
  · skip
    refine wp_steps (i' := 14) (ls' := [some (.ref 101), some (.int i1)]) (st' := [.int (-1)]) (h' := h) (P := True) 1 rfl rfl trivial ?_
    exact J _ (by rw [if_pos c2])
  · skip
    have H := H.2 c2
    refine wp_steps (i' := 5) (ls' := [some (.ref 101), some (.int i1)]) (st' := [.int (mx_i h 101 1), .int i1]) (h' := h) (P := ((mxT 101).1 = 8 ∧ mxG h) ∧ True) 3 rfl rfl ⟨⟨(congrArg Prod.fst sT_101), G⟩, trivial⟩ ?_
    refine wp_br (P := True) (c := (mx_i h 101 1) ≤ i1) (t := 13) (st' := []) rfl rfl trivial (fun c3 => ?_) (fun c3 => ?_)
    · have c3 := Int32.not_lt.mpr c3
      refine wp_steps (i' := 14) (ls' := [some (.ref 101), some (.int i1)]) (st' := [.int (-1)]) (h' := h) (P := True) 1 rfl rfl trivial ?_
      exact J _ (by rw [if_neg c2, if_neg c3])
    · have c3 := Int32.not_le.mp c3
      have H := H.1 c3
      obtain ⟨o4, H⟩ := H
      refine wp_steps (i' := 12) (ls' := [some (.ref 101), some (.int i1)]) (st' := [.int ((mx_i h 102 i1.toNatClampNeg) &&& 255)]) (h' := h) (P := ((mxT 101).1 = 8 ∧ mxG h) ∧ (((mxT 102).1 = 51 ∧ mxG h) ∧ vp_in i1 (mxT 102).2) ∧ True) 6 rfl rfl ⟨⟨(congrArg Prod.fst sT_101), G⟩, (cA sT_102 G o4), trivial⟩ ?_
      refine wp_J (j := 14) (st' := [.int ((mx_i h 102 i1.toNatClampNeg) &&& 255)]) rfl rfl ?_
      exact J _ (by rw [if_neg c2, if_pos c3])
def V_87 (h : mxH) (i1 : Int32) : Int32 := ((if i1 < 0 then (-1) else (if i1 < (mx_i h 101 1) then ((mx_i h 102 i1.toNatClampNeg) &&& 255) else (-1))) : Int32)
theorem sp_87 {d : Nat} {h : mxH} {Q : mxO → mxH → Prop} {i1 : Int32} (G : mxG h)  (x0 : ((i1 < 0 → True) ∧ (¬ i1 < 0 → ((i1 < (mx_i h 101 1) → (vp_in i1 400 ∧ True)) ∧ (¬ i1 < (mx_i h 101 1) → True))))) (k : Q (.inl (some (.int (V_87 h i1)))) h) : mx_wp d 87 0 (mx_fr 87 [.ref 101, .int i1]) [] h Q := by
  unfold V_87 at k
  have hob : (((i1 < 0 → True) ∧ (¬ i1 < 0 → ((i1 < (mx_i h 101 1) → (vp_in i1 400 ∧ True)) ∧ (¬ i1 < (mx_i h 101 1) → True)))) ∧ True) := ⟨x0, trivial⟩
  refine tr_87_0 G  ?_
  obtain ⟨q0, hob⟩ := hob
  refine ⟨q0, ?_⟩
  intro v1 ev1
  subst ev1
  exact k
/-! 55: StoneBacks$Scales.isRight(ILStoneBacks$Valley;)Z -/
set_option maxRecDepth 8000 in
theorem tr_55_0 {d : Nat} {h : mxH} {Q : mxO → mxH → Prop} {i1 : Int32} {a : Nat} (G : mxG h) (hVa : (mxT a).1 = 9) (H : (vp_in (i1 * 3) 36 ∧ vp_in ((i1 * 3) + 1) 36 ∧ ((((V_44 h a (mx_i h 118 (i1 * 3).toNatClampNeg)) = 0 → True) ∧ (¬ (V_44 h a (mx_i h 118 (i1 * 3).toNatClampNeg)) = 0 → (((V_44 h a (mx_i h 118 ((i1 * 3) + 1).toNatClampNeg)) = 0 → True) ∧ (¬ (V_44 h a (mx_i h 118 ((i1 * 3) + 1).toNatClampNeg)) = 0 → (((mx_i h 118 (i1 * 3).toNatClampNeg) = (mx_i h 118 ((i1 * 3) + 1).toNatClampNeg) → True) ∧ (¬ (mx_i h 118 (i1 * 3).toNatClampNeg) = (mx_i h 118 ((i1 * 3) + 1).toNatClampNeg) → (vp_in ((i1 * 3) + 2) 36 ∧ True))))))) ∧ (∀ (v3 : Int32), v3 = ((if (V_44 h a (mx_i h 118 (i1 * 3).toNatClampNeg)) = 0 then 0 else (if (V_44 h a (mx_i h 118 ((i1 * 3) + 1).toNatClampNeg)) = 0 then 0 else (if (mx_i h 118 (i1 * 3).toNatClampNeg) = (mx_i h 118 ((i1 * 3) + 1).toNatClampNeg) then 0 else (if 2 < (mx_i h 118 ((i1 * 3) + 2).toNatClampNeg) then 0 else 1)))) : Int32) → Q (.inl (some (.int v3))) h)))) : mx_wp (d + 1) 55 0 (mx_fr 55 [.ref 117, .int i1, .ref a]) [] h Q := by
  show mx_wp (d + 1) 55 0 [some (.ref 117), some (.int i1), some (.ref a), none, none] [] h Q
  obtain ⟨o1, o2, H⟩ := H
  refine wp_steps (i' := 19) (ls' := [some (.ref 117), some (.int i1), some (.ref a), some (.int (mx_i h 118 (i1 * 3).toNatClampNeg)), some (.int (mx_i h 118 ((i1 * 3) + 1).toNatClampNeg))]) (st' := [.int (mx_i h 118 (i1 * 3).toNatClampNeg), .ref (a + 1)]) (h' := h) (P := ((mxT 117).1 = 6 ∧ mxG h) ∧ (((mxT 118).1 = 50 ∧ mxG h) ∧ vp_in (i1 * 3) (mxT 118).2) ∧ ((mxT 117).1 = 6 ∧ mxG h) ∧ (((mxT 118).1 = 50 ∧ mxG h) ∧ vp_in ((i1 * 3) + 1) (mxT 118).2) ∧ ((mxT a).1 = 9 ∧ mxG h) ∧ True) 19 rfl rfl ⟨⟨(congrArg Prod.fst sT_117), G⟩, (cA sT_118 G o1), ⟨(congrArg Prod.fst sT_117), G⟩, (cA sT_118 G o2), ⟨(congrArg Prod.fst (sV_0 hVa)), G⟩, trivial⟩ ?_
  refine wp_call (b := false) (y' := 44) (as := [.ref (a + 1), .int (mx_i h 118 (i1 * 3).toNatClampNeg)]) (rest := []) (P := ((mxT (a + 1)).1 = mxRc 44 ∧ mxG h)) rfl (by with_unfolding_all rfl) ⟨(congrArg Prod.fst (sV_1 hVa)), G⟩ (Nat.le_of_ble_eq_true rfl) (sp_44 G hVa ?_)
  show mx_wp (d + 1) 55 20 [some (.ref 117), some (.int i1), some (.ref a), some (.int (mx_i h 118 (i1 * 3).toNatClampNeg)), some (.int (mx_i h 118 ((i1 * 3) + 1).toNatClampNeg))] [.int (V_44 h a (mx_i h 118 (i1 * 3).toNatClampNeg))] h Q
  have J : ∀ (v3 : Int32) (ev3 : v3 = ((if (V_44 h a (mx_i h 118 (i1 * 3).toNatClampNeg)) = 0 then 0 else (if (V_44 h a (mx_i h 118 ((i1 * 3) + 1).toNatClampNeg)) = 0 then 0 else (if (mx_i h 118 (i1 * 3).toNatClampNeg) = (mx_i h 118 ((i1 * 3) + 1).toNatClampNeg) then 0 else (if 2 < (mx_i h 118 ((i1 * 3) + 2).toNatClampNeg) then 0 else 1)))) : Int32)), mx_wp (d + 1) 55 42 [some (.ref 117), some (.int i1), some (.ref a), some (.int (mx_i h 118 (i1 * 3).toNatClampNeg)), some (.int (mx_i h 118 ((i1 * 3) + 1).toNatClampNeg))] [.int v3] h Q := by
    intro v3 ev3
    have H := H.2 v3 ev3
    exact wp_end (o := .inl (some (.int v3))) (h' := h) (P := (v3 = 0 ∨ v3 = 1)) rfl rfl (b01 ev3 (by repeat' (first | exact Or.inl rfl | exact Or.inr rfl | split))) H
  have H := H.1
  refine wp_br (P := True) (c := (V_44 h a (mx_i h 118 (i1 * 3).toNatClampNeg)) = 0) (t := 41) (st' := []) rfl rfl trivial (fun c4 => ?_) (fun c4 => ?_)
  · skip
    refine wp_steps (i' := 42) (ls' := [some (.ref 117), some (.int i1), some (.ref a), some (.int (mx_i h 118 (i1 * 3).toNatClampNeg)), some (.int (mx_i h 118 ((i1 * 3) + 1).toNatClampNeg))]) (st' := [.int 0]) (h' := h) (P := True) 1 rfl rfl trivial ?_
    exact J _ (by rw [if_pos c4])
  · skip
    have H := H.2 c4
    refine wp_steps (i' := 24) (ls' := [some (.ref 117), some (.int i1), some (.ref a), some (.int (mx_i h 118 (i1 * 3).toNatClampNeg)), some (.int (mx_i h 118 ((i1 * 3) + 1).toNatClampNeg))]) (st' := [.int (mx_i h 118 ((i1 * 3) + 1).toNatClampNeg), .ref (a + 1)]) (h' := h) (P := ((mxT a).1 = 9 ∧ mxG h) ∧ True) 3 rfl rfl ⟨⟨(congrArg Prod.fst (sV_0 hVa)), G⟩, trivial⟩ ?_
    refine wp_call (b := false) (y' := 44) (as := [.ref (a + 1), .int (mx_i h 118 ((i1 * 3) + 1).toNatClampNeg)]) (rest := []) (P := ((mxT (a + 1)).1 = mxRc 44 ∧ mxG h)) rfl (by with_unfolding_all rfl) ⟨(congrArg Prod.fst (sV_1 hVa)), G⟩ (Nat.le_of_ble_eq_true rfl) (sp_44 G hVa ?_)
    show mx_wp (d + 1) 55 25 [some (.ref 117), some (.int i1), some (.ref a), some (.int (mx_i h 118 (i1 * 3).toNatClampNeg)), some (.int (mx_i h 118 ((i1 * 3) + 1).toNatClampNeg))] [.int (V_44 h a (mx_i h 118 ((i1 * 3) + 1).toNatClampNeg))] h Q
    refine wp_br (P := True) (c := (V_44 h a (mx_i h 118 ((i1 * 3) + 1).toNatClampNeg)) = 0) (t := 41) (st' := []) rfl rfl trivial (fun c5 => ?_) (fun c5 => ?_)
    · skip
      refine wp_steps (i' := 42) (ls' := [some (.ref 117), some (.int i1), some (.ref a), some (.int (mx_i h 118 (i1 * 3).toNatClampNeg)), some (.int (mx_i h 118 ((i1 * 3) + 1).toNatClampNeg))]) (st' := [.int 0]) (h' := h) (P := True) 1 rfl rfl trivial ?_
      exact J _ (by rw [if_neg c4, if_pos c5])
    · skip
      have H := H.2 c5
      refine wp_steps (i' := 28) (ls' := [some (.ref 117), some (.int i1), some (.ref a), some (.int (mx_i h 118 (i1 * 3).toNatClampNeg)), some (.int (mx_i h 118 ((i1 * 3) + 1).toNatClampNeg))]) (st' := [.int (mx_i h 118 ((i1 * 3) + 1).toNatClampNeg), .int (mx_i h 118 (i1 * 3).toNatClampNeg)]) (h' := h) (P := True) 2 rfl rfl trivial ?_
      refine wp_br (P := True) (c := (mx_i h 118 (i1 * 3).toNatClampNeg) = (mx_i h 118 ((i1 * 3) + 1).toNatClampNeg)) (t := 41) (st' := []) rfl rfl trivial (fun c6 => ?_) (fun c6 => ?_)
      · skip
        refine wp_steps (i' := 42) (ls' := [some (.ref 117), some (.int i1), some (.ref a), some (.int (mx_i h 118 (i1 * 3).toNatClampNeg)), some (.int (mx_i h 118 ((i1 * 3) + 1).toNatClampNeg))]) (st' := [.int 0]) (h' := h) (P := True) 1 rfl rfl trivial ?_
        exact J _ (by rw [if_neg c4, if_neg c5, if_pos c6])
      · skip
        have H := H.2 c6
        obtain ⟨o7, H⟩ := H
        refine wp_steps (i' := 38) (ls' := [some (.ref 117), some (.int i1), some (.ref a), some (.int (mx_i h 118 (i1 * 3).toNatClampNeg)), some (.int (mx_i h 118 ((i1 * 3) + 1).toNatClampNeg))]) (st' := [.int 2, .int (mx_i h 118 ((i1 * 3) + 2).toNatClampNeg)]) (h' := h) (P := ((mxT 117).1 = 6 ∧ mxG h) ∧ (((mxT 118).1 = 50 ∧ mxG h) ∧ vp_in ((i1 * 3) + 2) (mxT 118).2) ∧ True) 9 rfl rfl ⟨⟨(congrArg Prod.fst sT_117), G⟩, (cA sT_118 G o7), trivial⟩ ?_
        refine wp_br (P := True) (c := 2 < (mx_i h 118 ((i1 * 3) + 2).toNatClampNeg)) (t := 41) (st' := []) rfl rfl trivial (fun c8 => ?_) (fun c8 => ?_)
        · skip
          refine wp_steps (i' := 42) (ls' := [some (.ref 117), some (.int i1), some (.ref a), some (.int (mx_i h 118 (i1 * 3).toNatClampNeg)), some (.int (mx_i h 118 ((i1 * 3) + 1).toNatClampNeg))]) (st' := [.int 0]) (h' := h) (P := True) 1 rfl rfl trivial ?_
          exact J _ (by rw [if_neg c4, if_neg c5, if_neg c6, if_pos c8])
        · skip
          refine wp_steps (i' := 40) (ls' := [some (.ref 117), some (.int i1), some (.ref a), some (.int (mx_i h 118 (i1 * 3).toNatClampNeg)), some (.int (mx_i h 118 ((i1 * 3) + 1).toNatClampNeg))]) (st' := [.int 1]) (h' := h) (P := True) 1 rfl rfl trivial ?_
          refine wp_J (j := 42) (st' := [.int 1]) rfl rfl ?_
          exact J _ (by rw [if_neg c4, if_neg c5, if_neg c6, if_neg c8])
def V_55 (h : mxH) (i1 : Int32) (a : Nat) : Int32 := ((if (V_44 h a (mx_i h 118 (i1 * 3).toNatClampNeg)) = 0 then 0 else (if (V_44 h a (mx_i h 118 ((i1 * 3) + 1).toNatClampNeg)) = 0 then 0 else (if (mx_i h 118 (i1 * 3).toNatClampNeg) = (mx_i h 118 ((i1 * 3) + 1).toNatClampNeg) then 0 else (if 2 < (mx_i h 118 ((i1 * 3) + 2).toNatClampNeg) then 0 else 1)))) : Int32)
theorem sp_55 {d : Nat} {h : mxH} {Q : mxO → mxH → Prop} {i1 : Int32} {a : Nat} (G : mxG h) (hVa : (mxT a).1 = 9) (x0 : vp_in (i1 * 3) 36) (x1 : vp_in ((i1 * 3) + 1) 36) (x2 : (((V_44 h a (mx_i h 118 (i1 * 3).toNatClampNeg)) = 0 → True) ∧ (¬ (V_44 h a (mx_i h 118 (i1 * 3).toNatClampNeg)) = 0 → (((V_44 h a (mx_i h 118 ((i1 * 3) + 1).toNatClampNeg)) = 0 → True) ∧ (¬ (V_44 h a (mx_i h 118 ((i1 * 3) + 1).toNatClampNeg)) = 0 → (((mx_i h 118 (i1 * 3).toNatClampNeg) = (mx_i h 118 ((i1 * 3) + 1).toNatClampNeg) → True) ∧ (¬ (mx_i h 118 (i1 * 3).toNatClampNeg) = (mx_i h 118 ((i1 * 3) + 1).toNatClampNeg) → (vp_in ((i1 * 3) + 2) 36 ∧ True)))))))) (k : Q (.inl (some (.int (V_55 h i1 a)))) h) : mx_wp (d + 1) 55 0 (mx_fr 55 [.ref 117, .int i1, .ref a]) [] h Q := by
  unfold V_55 at k
  have hob : (vp_in (i1 * 3) 36 ∧ vp_in ((i1 * 3) + 1) 36 ∧ ((((V_44 h a (mx_i h 118 (i1 * 3).toNatClampNeg)) = 0 → True) ∧ (¬ (V_44 h a (mx_i h 118 (i1 * 3).toNatClampNeg)) = 0 → (((V_44 h a (mx_i h 118 ((i1 * 3) + 1).toNatClampNeg)) = 0 → True) ∧ (¬ (V_44 h a (mx_i h 118 ((i1 * 3) + 1).toNatClampNeg)) = 0 → (((mx_i h 118 (i1 * 3).toNatClampNeg) = (mx_i h 118 ((i1 * 3) + 1).toNatClampNeg) → True) ∧ (¬ (mx_i h 118 (i1 * 3).toNatClampNeg) = (mx_i h 118 ((i1 * 3) + 1).toNatClampNeg) → (vp_in ((i1 * 3) + 2) 36 ∧ True))))))) ∧ True)) := ⟨x0, x1, ⟨x2, trivial⟩⟩
  refine tr_55_0 G hVa ?_
  obtain ⟨q0, q1, hob⟩ := hob
  refine ⟨q0, q1, ?_⟩
  obtain ⟨q0, hob⟩ := hob
  refine ⟨q0, ?_⟩
  intro v3 ev3
  subst ev3
  exact k
/-! 54: StoneBacks$Scales.readRows(LStoneBacks$Tape;LStoneBacks$Valley;)Z -/
def H_54_18 (d : Nat) (h : mxH) (a : Nat) (i3 : Int32) (Q : mxO → mxH → Prop) : Prop := mx_wp d 54 18 [some (.ref 117), some (.ref 101), some (.ref a), some (.int i3)] [] h Q
def H_54_39 (d : Nat) (h : mxH) (a : Nat) (i3 : Int32) (Q : mxO → mxH → Prop) : Prop := ∀ (w1 : Option Value), mx_wp d 54 39 [some (.ref 117), w1, some (.ref a), some (.int i3)] [] h Q
set_option maxRecDepth 8000 in
theorem tr_54_0 {d : Nat} {h : mxH} {Q : mxO → mxH → Prop} {a : Nat} (G : mxG h) (hVa : (mxT a).1 = 9) (H : (∀ h1, h1 = mx_wi h 117 1 0 → ((36 < (mx_i h1 101 1) → Q (.inl (some (.int 0))) h1) ∧ (¬ 36 < (mx_i h1 101 1) → ((((mx_i h1 101 1) - (mx_i h1 101 1) / 3 * 3) = 0 → H_54_18 (d + 2) h1 a 0 Q) ∧ (¬ ((mx_i h1 101 1) - (mx_i h1 101 1) / 3 * 3) = 0 → Q (.inl (some (.int 0))) h1)))))) : mx_wp (d + 2) 54 0 (mx_fr 54 [.ref 117, .ref 101, .ref a]) [] h Q := by
  show mx_wp (d + 2) 54 0 [some (.ref 117), some (.ref 101), some (.ref a), none] [] h Q
  refine wp_steps (i' := 3) (ls' := [some (.ref 117), some (.ref 101), some (.ref a), none]) (st' := []) (h' := mx_wi h 117 1 0) (P := ((mxT 117).1 = 6 ∧ mxG h) ∧ True) 3 rfl rfl ⟨⟨(congrArg Prod.fst sT_117), G⟩, trivial⟩ ?_
  obtain ⟨h1, e2⟩ : ∃ z9, z9 = mx_wi h 117 1 0 := ⟨_, rfl⟩
  rw [← e2]
  have H := H h1 e2
  have G3 : mxG h1 := e2 ▸ mxG_wi G
  refine wp_steps (i' := 8) (ls' := [some (.ref 117), some (.ref 101), some (.ref a), none]) (st' := [.int (nI (mxT 118).2), .int (mx_i h1 101 1)]) (h' := h1) (P := ((mxT 101).1 = 8 ∧ mxG h1) ∧ ((mxT 117).1 = 6 ∧ mxG h1) ∧ (50 ≤ (mxT 118).1 ∧ mxG h1) ∧ True) 5 rfl rfl ⟨⟨(congrArg Prod.fst sT_101), G3⟩, ⟨(congrArg Prod.fst sT_117), G3⟩, (cL sT_118 (by decide) G3), trivial⟩ ?_
  rw [congrArg Prod.snd sT_118]
  change mx_wp (d + 2) 54 8 [some (.ref 117), some (.ref 101), some (.ref a), none] [.int 36, .int (mx_i h1 101 1)] h1 Q
  refine wp_br (P := True) (c := 36 < (mx_i h1 101 1)) (t := 14) (st' := []) rfl rfl trivial (fun c4 => ?_) (fun c4 => ?_)
  · skip
    have H := H.1 c4
    refine wp_steps (i' := 15) (ls' := [some (.ref 117), some (.ref 101), some (.ref a), none]) (st' := [.int 0]) (h' := h1) (P := True) 1 rfl rfl trivial ?_
    exact wp_end (o := .inl (some (.int 0))) (h' := h1) (P := ((0 : Int32) = 0 ∨ (0 : Int32) = 1)) rfl rfl (Or.inl rfl) H
  · skip
    have H := H.2 c4
    refine wp_steps (i' := 13) (ls' := [some (.ref 117), some (.ref 101), some (.ref a), none]) (st' := [.int ((mx_i h1 101 1) - (mx_i h1 101 1) / 3 * 3)]) (h' := h1) (P := ((mxT 101).1 = 8 ∧ mxG h1) ∧ (¬ (3 : Int32) = 0) ∧ True) 4 rfl rfl ⟨⟨(congrArg Prod.fst sT_101), G3⟩, (by decide), trivial⟩ ?_
    refine wp_br (P := True) (c := ((mx_i h1 101 1) - (mx_i h1 101 1) / 3 * 3) = 0) (t := 16) (st' := []) rfl rfl trivial (fun c5 => ?_) (fun c5 => ?_)
    · skip
      have H := H.1 c5
      refine wp_steps (i' := 18) (ls' := [some (.ref 117), some (.ref 101), some (.ref a), some (.int 0)]) (st' := []) (h' := h1) (P := True) 2 rfl rfl trivial ?_
      exact H 
    · skip
      have H := H.2 c5
      refine wp_steps (i' := 15) (ls' := [some (.ref 117), some (.ref 101), some (.ref a), none]) (st' := [.int 0]) (h' := h1) (P := True) 1 rfl rfl trivial ?_
      exact wp_end (o := .inl (some (.int 0))) (h' := h1) (P := ((0 : Int32) = 0 ∨ (0 : Int32) = 1)) rfl rfl (Or.inl rfl) H
set_option maxRecDepth 8000 in
theorem tr_54_18 {d : Nat} {h : mxH} {Q : mxO → mxH → Prop} {a : Nat} {i3 : Int32} (G : mxG h) (hVa : (mxT a).1 = 9) (H : ((i3 < (mx_i h 101 1) → (((i3 < 0 → True) ∧ (¬ i3 < 0 → ((i3 < (mx_i h 101 1) → (vp_in i3 400 ∧ True)) ∧ (¬ i3 < (mx_i h 101 1) → True)))) ∧ (vp_in i3 36 ∧ (∀ h7, h7 = mx_wi h 118 i3.toNatClampNeg (V_87 h i3) → H_54_18 (d + 2) h7 a (i3 + 1) Q)))) ∧ (¬ i3 < (mx_i h 101 1) → (∀ h2, h2 = mx_wi h 117 1 ((mx_i h 101 1) / 3) → H_54_39 (d + 2) h2 a 0 Q)))) : H_54_18 (d + 2) h a i3 Q := by
  show mx_wp (d + 2) 54 18 [some (.ref 117), some (.ref 101), some (.ref a), some (.int i3)] [] h Q
  refine wp_steps (i' := 21) (ls' := [some (.ref 117), some (.ref 101), some (.ref a), some (.int i3)]) (st' := [.int (mx_i h 101 1), .int i3]) (h' := h) (P := ((mxT 101).1 = 8 ∧ mxG h) ∧ True) 3 rfl rfl ⟨⟨(congrArg Prod.fst sT_101), G⟩, trivial⟩ ?_
  refine wp_br (P := True) (c := (mx_i h 101 1) ≤ i3) (t := 31) (st' := []) rfl rfl trivial (fun c1 => ?_) (fun c1 => ?_)
  · have c1 := Int32.not_lt.mpr c1
    have H := H.2 c1
    refine wp_steps (i' := 37) (ls' := [some (.ref 117), some (.ref 101), some (.ref a), some (.int i3)]) (st' := []) (h' := mx_wi h 117 1 ((mx_i h 101 1) / 3)) (P := ((mxT 101).1 = 8 ∧ mxG h) ∧ (¬ (3 : Int32) = 0) ∧ ((mxT 117).1 = 6 ∧ mxG h) ∧ True) 6 rfl rfl ⟨⟨(congrArg Prod.fst sT_101), G⟩, (by decide), ⟨(congrArg Prod.fst sT_117), G⟩, trivial⟩ ?_
    obtain ⟨h2, e3⟩ : ∃ z9, z9 = mx_wi h 117 1 ((mx_i h 101 1) / 3) := ⟨_, rfl⟩
    rw [← e3]
    have H := H h2 e3
    have G4 : mxG h2 := e3 ▸ mxG_wi G
    refine wp_steps (i' := 39) (ls' := [some (.ref 117), some (.ref 101), some (.ref a), some (.int 0)]) (st' := []) (h' := h2) (P := True) 2 rfl rfl trivial ?_
    exact H _
  · have c1 := Int32.not_le.mp c1
    have H := H.1 c1
    refine wp_steps (i' := 27) (ls' := [some (.ref 117), some (.ref 101), some (.ref a), some (.int i3)]) (st' := [.int i3, .ref 101, .int i3, .ref 118]) (h' := h) (P := ((mxT 117).1 = 6 ∧ mxG h) ∧ True) 5 rfl rfl ⟨⟨(congrArg Prod.fst sT_117), G⟩, trivial⟩ ?_
    obtain ⟨o5, H⟩ := H
    refine wp_call (b := false) (y' := 87) (as := [.ref 101, .int i3]) (rest := [.int i3, .ref 118]) (P := ((mxT 101).1 = mxRc 87 ∧ mxG h)) rfl (by with_unfolding_all rfl) ⟨(congrArg Prod.fst sT_101), G⟩ (Nat.le_of_ble_eq_true rfl) (sp_87 G o5 ?_)
    show mx_wp (d + 2) 54 28 [some (.ref 117), some (.ref 101), some (.ref a), some (.int i3)] [.int (V_87 h i3), .int i3, .ref 118] h Q
    obtain ⟨o6, H⟩ := H
    refine wp_steps (i' := 29) (ls' := [some (.ref 117), some (.ref 101), some (.ref a), some (.int i3)]) (st' := []) (h' := mx_wi h 118 i3.toNatClampNeg (V_87 h i3)) (P := (((mxT 118).1 = 50 ∧ mxG h) ∧ vp_in i3 (mxT 118).2) ∧ True) 1 rfl rfl ⟨(cA sT_118 G o6), trivial⟩ ?_
    obtain ⟨h7, e8⟩ : ∃ z9, z9 = mx_wi h 118 i3.toNatClampNeg (V_87 h i3) := ⟨_, rfl⟩
    rw [← e8]
    have H := H h7 e8
    have G9 : mxG h7 := e8 ▸ mxG_wi G
    refine wp_steps (i' := 30) (ls' := [some (.ref 117), some (.ref 101), some (.ref a), some (.int (i3 + 1))]) (st' := []) (h' := h7) (P := True) 1 rfl rfl trivial ?_
    refine wp_J (j := 18) (st' := []) rfl rfl ?_
    exact H 
set_option maxRecDepth 8000 in
theorem tr_54_39 {d : Nat} {h : mxH} {Q : mxO → mxH → Prop} {a : Nat} {i3 : Int32} (G : mxG h) (hVa : (mxT a).1 = 9) (H : ((i3 < (mx_i h 117 1) → (vp_in (i3 * 3) 36 ∧ vp_in ((i3 * 3) + 1) 36 ∧ (((V_44 h a (mx_i h 118 (i3 * 3).toNatClampNeg)) = 0 → True) ∧ (¬ (V_44 h a (mx_i h 118 (i3 * 3).toNatClampNeg)) = 0 → (((V_44 h a (mx_i h 118 ((i3 * 3) + 1).toNatClampNeg)) = 0 → True) ∧ (¬ (V_44 h a (mx_i h 118 ((i3 * 3) + 1).toNatClampNeg)) = 0 → (((mx_i h 118 (i3 * 3).toNatClampNeg) = (mx_i h 118 ((i3 * 3) + 1).toNatClampNeg) → True) ∧ (¬ (mx_i h 118 (i3 * 3).toNatClampNeg) = (mx_i h 118 ((i3 * 3) + 1).toNatClampNeg) → (vp_in ((i3 * 3) + 2) 36 ∧ True))))))) ∧ (((V_55 h i3 a) = 0 → Q (.inl (some (.int 0))) h) ∧ (¬ (V_55 h i3 a) = 0 → H_54_39 (d + 2) h a (i3 + 1) Q)))) ∧ (¬ i3 < (mx_i h 117 1) → Q (.inl (some (.int 1))) h))) : H_54_39 (d + 2) h a i3 Q := by
  intro w1
  show mx_wp (d + 2) 54 39 [some (.ref 117), w1, some (.ref a), some (.int i3)] [] h Q
  refine wp_steps (i' := 42) (ls' := [some (.ref 117), w1, some (.ref a), some (.int i3)]) (st' := [.int (mx_i h 117 1), .int i3]) (h' := h) (P := ((mxT 117).1 = 6 ∧ mxG h) ∧ True) 3 rfl rfl ⟨⟨(congrArg Prod.fst sT_117), G⟩, trivial⟩ ?_
  refine wp_br (P := True) (c := (mx_i h 117 1) ≤ i3) (t := 52) (st' := []) rfl rfl trivial (fun c1 => ?_) (fun c1 => ?_)
  · have c1 := Int32.not_lt.mpr c1
    have H := H.2 c1
    refine wp_steps (i' := 53) (ls' := [some (.ref 117), w1, some (.ref a), some (.int i3)]) (st' := [.int 1]) (h' := h) (P := True) 1 rfl rfl trivial ?_
    exact wp_end (o := .inl (some (.int 1))) (h' := h) (P := ((1 : Int32) = 0 ∨ (1 : Int32) = 1)) rfl rfl (Or.inr rfl) H
  · have c1 := Int32.not_le.mp c1
    have H := H.1 c1
    refine wp_steps (i' := 46) (ls' := [some (.ref 117), w1, some (.ref a), some (.int i3)]) (st' := [.ref a, .int i3, .ref 117]) (h' := h) (P := True) 3 rfl rfl trivial ?_
    obtain ⟨o2, o3, o4, H⟩ := H
    refine wp_call (b := false) (y' := 55) (as := [.ref 117, .int i3, .ref a]) (rest := []) (P := ((mxT 117).1 = mxRc 55 ∧ mxG h)) rfl (by with_unfolding_all rfl) ⟨(congrArg Prod.fst sT_117), G⟩ (Nat.le_of_ble_eq_true rfl) (sp_55 G hVa o2 o3 o4 ?_)
    show mx_wp (d + 2) 54 47 [some (.ref 117), w1, some (.ref a), some (.int i3)] [.int (V_55 h i3 a)] h Q
    refine wp_br (P := True) (c := ¬ (V_55 h i3 a) = 0) (t := 50) (st' := []) rfl rfl trivial (fun c5 => ?_) (fun c5 => ?_)
    · skip
      have H := H.2 c5
      refine wp_steps (i' := 51) (ls' := [some (.ref 117), w1, some (.ref a), some (.int (i3 + 1))]) (st' := []) (h' := h) (P := True) 1 rfl rfl trivial ?_
      refine wp_J (j := 39) (st' := []) rfl rfl ?_
      exact H _
    · have c5 := Decidable.of_not_not c5
      have H := H.1 c5
      refine wp_steps (i' := 49) (ls' := [some (.ref 117), w1, some (.ref a), some (.int i3)]) (st' := [.int 0]) (h' := h) (P := True) 1 rfl rfl trivial ?_
      exact wp_end (o := .inl (some (.int 0))) (h' := h) (P := ((0 : Int32) = 0 ∨ (0 : Int32) = 1)) rfl rfl (Or.inl rfl) H
def F_54_18 (a : Nat) (z : Nat) (s : mxH) : mxH := (mx_wi s 118 (nI z).toNatClampNeg (V_87 s (nI z)))
theorem K_54_18 {a : Nat} (z : Nat) (s : mxH) : mxK s ((F_54_18 a) z s) := by
  unfold F_54_18
  (try simp only []); repeat' (first | with_reducible exact mxK_rfl | with_reducible exact mxK_wi | with_reducible exact mxK_wrow | with_reducible refine mxK_ite ?_ ?_ | with_reducible refine mxK_tr ?_ mxK_wi | with_reducible refine mxK_tr ?_ mxK_wrow)
theorem lp_54_18 {d : Nat} {Q : mxO → mxH → Prop} {a : Nat} {s0 : mxH} {n : Nat} (z0 : Nat) (G : mxG s0) (hVa : (mxT a).1 = 9) (hB : ∀ z, z0 ≤ z → z ≤ n → (mx_i (fz (F_54_18 a) z0 z s0) 101 1) = nI n) (hn : n < 2147483648) (hz : z0 ≤ n) (ob : ∀ z, z0 ≤ z → z < n → ((((nI z) < 0 → True) ∧ (¬ (nI z) < 0 → (((nI z) < (mx_i (fz (F_54_18 a) z0 z s0) 101 1) → (vp_in (nI z) 400 ∧ True)) ∧ (¬ (nI z) < (mx_i (fz (F_54_18 a) z0 z s0) 101 1) → True)))) ∧ (vp_in (nI z) 36 ∧ True))) (k : (∀ h2, h2 = mx_wi (fz (F_54_18 a) z0 n s0) 117 1 ((mx_i (fz (F_54_18 a) z0 n s0) 101 1) / 3) → H_54_39 (d + 2) h2 a 0 Q)) : H_54_18 (d + 2) s0 a (nI z0) Q := by
  have L : ∀ (j z : Nat), z0 ≤ z → z + j = n → H_54_18 (d + 2) (fz (F_54_18 a) z0 z s0) a (nI z) Q := by
    intro j
    induction j with
    | zero =>
      intro z hz0 hzn
      have hzn : z = n := by omega
      subst hzn
      have Gz : mxG (fz (F_54_18 a) z0 z s0) := mxK_G (mxK_fz (g := fun s => s) (fun z s => K_54_18 z s) z0 z s0) G
      have hBz := hB z hz0 (by omega)
      refine tr_54_18 Gz hVa ⟨fun c9 => absurd (hBz ▸ c9) Int32.lt_irrefl, fun c9 => k⟩
    | succ j ih =>
      intro z hz0 hzn
      have hih := ih (z + 1) (by omega) (by omega)
      rw [nI_succ, fz_s hz0] at hih
      have Gz : mxG (fz (F_54_18 a) z0 z s0) := mxK_G (mxK_fz (g := fun s => s) (fun z s => K_54_18 z s) z0 z s0) G
      have hBz := hB z hz0 (by omega)
      have hob := ob z hz0 (by omega)
      refine tr_54_18 Gz hVa ⟨fun c9 => ?_, fun c9 => absurd (hBz.symm ▸ nI_lt (by omega) hn) c9⟩
      obtain ⟨q0, hob⟩ := hob
      refine ⟨q0, ?_⟩
      obtain ⟨q0, hob⟩ := hob
      refine ⟨q0, ?_⟩
      intro h7 eh7
      subst eh7
      exact hih
  have L0 := L (n - z0) z0 (Nat.le_refl _) (by omega)
  simp only [fz_0] at L0
  exact L0
/-! 57: StoneBacks$Scales.isCase(ILStoneBacks$Valley;)Z -/
set_option maxRecDepth 8000 in
theorem tr_57_0 {d : Nat} {h : mxH} {Q : mxO → mxH → Prop} {i0 : Int32} {a : Nat} (G : mxG h) (hVa : (mxT a).1 = 9) (H : (((i0 = 10 → True) ∧ (¬ i0 = 10 → ((i0 < (mx_i h (a + 7) 0) → (vp_in i0 10 ∧ True)) ∧ (¬ i0 < (mx_i h (a + 7) 0) → True)))) ∧ (∀ (v1 : Int32), v1 = ((if i0 = 10 then 1 else (if i0 < (mx_i h (a + 7) 0) then (if (mx_i h (a + 11) i0.toNatClampNeg) = 0 then 1 else 0) else 0)) : Int32) → Q (.inl (some (.int v1))) h))) : mx_wp d 57 0 (mx_fr 57 [.int i0, .ref a]) [] h Q := by
  show mx_wp d 57 0 [some (.int i0), some (.ref a)] [] h Q
  refine wp_steps (i' := 2) (ls' := [some (.int i0), some (.ref a)]) (st' := [.int 10, .int i0]) (h' := h) (P := True) 2 rfl rfl trivial ?_
  have J : ∀ (v1 : Int32) (ev1 : v1 = ((if i0 = 10 then 1 else (if i0 < (mx_i h (a + 7) 0) then (if (mx_i h (a + 11) i0.toNatClampNeg) = 0 then 1 else 0) else 0)) : Int32)), mx_wp d 57 17 [some (.int i0), some (.ref a)] [.int v1] h Q := by
    intro v1 ev1
    have H := H.2 v1 ev1
    exact wp_end (o := .inl (some (.int v1))) (h' := h) (P := (v1 = 0 ∨ v1 = 1)) rfl rfl (b01 ev1 (by repeat' (first | exact Or.inl rfl | exact Or.inr rfl | split))) H
  have H := H.1
  refine wp_br (P := True) (c := i0 = 10) (t := 14) (st' := []) rfl rfl trivial (fun c2 => ?_) (fun c2 => ?_)
  · skip
    refine wp_steps (i' := 15) (ls' := [some (.int i0), some (.ref a)]) (st' := [.int 1]) (h' := h) (P := True) 1 rfl rfl trivial ?_
    refine wp_J (j := 17) (st' := [.int 1]) rfl rfl ?_
    exact J _ (by rw [if_pos c2])
  · skip
    have H := H.2 c2
    refine wp_steps (i' := 7) (ls' := [some (.int i0), some (.ref a)]) (st' := [.int (mx_i h (a + 7) 0), .int i0]) (h' := h) (P := ((mxT a).1 = 9 ∧ mxG h) ∧ ((mxT (a + 7)).1 = 7 ∧ mxG h) ∧ True) 4 rfl rfl ⟨⟨(congrArg Prod.fst (sV_0 hVa)), G⟩, ⟨(congrArg Prod.fst (sV_7 hVa)), G⟩, trivial⟩ ?_
    refine wp_br (P := True) (c := (mx_i h (a + 7) 0) ≤ i0) (t := 16) (st' := []) rfl rfl trivial (fun c3 => ?_) (fun c3 => ?_)
    · have c3 := Int32.not_lt.mpr c3
      refine wp_steps (i' := 17) (ls' := [some (.int i0), some (.ref a)]) (st' := [.int 0]) (h' := h) (P := True) 1 rfl rfl trivial ?_
      exact J _ (by rw [if_neg c2, if_neg c3])
    · have c3 := Int32.not_le.mp c3
      have H := H.1 c3
      obtain ⟨o4, H⟩ := H
      refine wp_steps (i' := 13) (ls' := [some (.int i0), some (.ref a)]) (st' := [.int (mx_i h (a + 11) i0.toNatClampNeg)]) (h' := h) (P := ((mxT a).1 = 9 ∧ mxG h) ∧ ((mxT (a + 7)).1 = 7 ∧ mxG h) ∧ (((mxT (a + 11)).1 = 50 ∧ mxG h) ∧ vp_in i0 (mxT (a + 11)).2) ∧ True) 5 rfl rfl ⟨⟨(congrArg Prod.fst (sV_0 hVa)), G⟩, ⟨(congrArg Prod.fst (sV_7 hVa)), G⟩, (cA (sV_11 hVa) G o4), trivial⟩ ?_
      refine wp_br (P := True) (c := ¬ (mx_i h (a + 11) i0.toNatClampNeg) = 0) (t := 16) (st' := []) rfl rfl trivial (fun c5 => ?_) (fun c5 => ?_)
      · skip
        refine wp_steps (i' := 17) (ls' := [some (.int i0), some (.ref a)]) (st' := [.int 0]) (h' := h) (P := True) 1 rfl rfl trivial ?_
        exact J _ (by rw [if_neg c2, if_pos c3, if_neg c5])
      · have c5 := Decidable.of_not_not c5
        refine wp_steps (i' := 15) (ls' := [some (.int i0), some (.ref a)]) (st' := [.int 1]) (h' := h) (P := True) 1 rfl rfl trivial ?_
        refine wp_J (j := 17) (st' := [.int 1]) rfl rfl ?_
        exact J _ (by rw [if_neg c2, if_pos c3, if_pos c5])
def V_57 (h : mxH) (i0 : Int32) (a : Nat) : Int32 := ((if i0 = 10 then 1 else (if i0 < (mx_i h (a + 7) 0) then (if (mx_i h (a + 11) i0.toNatClampNeg) = 0 then 1 else 0) else 0)) : Int32)
theorem sp_57 {d : Nat} {h : mxH} {Q : mxO → mxH → Prop} {i0 : Int32} {a : Nat} (G : mxG h) (hVa : (mxT a).1 = 9) (x0 : ((i0 = 10 → True) ∧ (¬ i0 = 10 → ((i0 < (mx_i h (a + 7) 0) → (vp_in i0 10 ∧ True)) ∧ (¬ i0 < (mx_i h (a + 7) 0) → True))))) (k : Q (.inl (some (.int (V_57 h i0 a)))) h) : mx_wp d 57 0 (mx_fr 57 [.int i0, .ref a]) [] h Q := by
  unfold V_57 at k
  have hob : (((i0 = 10 → True) ∧ (¬ i0 = 10 → ((i0 < (mx_i h (a + 7) 0) → (vp_in i0 10 ∧ True)) ∧ (¬ i0 < (mx_i h (a + 7) 0) → True)))) ∧ True) := ⟨x0, trivial⟩
  refine tr_57_0 G hVa ?_
  obtain ⟨q0, hob⟩ := hob
  refine ⟨q0, ?_⟩
  intro v1 ev1
  subst ev1
  exact k
/-! 60: StoneBacks$Scales.scaleLoad(ILStoneBacks$Valley;I)I -/
set_option maxRecDepth 8000 in
theorem tr_60_0 {d : Nat} {h : mxH} {Q : mxO → mxH → Prop} {i0 : Int32} {a : Nat} {i2 : Int32} (G : mxG h) (hVa : (mxT a).1 = 9) (H : (cB (mx_i h (a + 7) 0) 10 ∧ ((i0 < (mx_i h (a + 7) 0) → (vp_in i0 10 ∧ (((V_70 h a i0) = i2 → Q (.inl (some (.int (((V_77 h a i2) - (mx_i h (a + 10) i0.toNatClampNeg)) + ((mx_i h (a + 10) i0.toNatClampNeg) / 2))))) h) ∧ (¬ (V_70 h a i0) = i2 → Q (.inl (some (.int (V_77 h a i2)))) h)))) ∧ (¬ i0 < (mx_i h (a + 7) 0) → Q (.inl (some (.int (V_77 h a i2)))) h)))) : mx_wp (d + 1) 60 0 (mx_fr 60 [.int i0, .ref a, .int i2]) [] h Q := by
  show mx_wp (d + 1) 60 0 [some (.int i0), some (.ref a), some (.int i2), none, none] [] h Q
  refine wp_steps (i' := 3) (ls' := [some (.int i0), some (.ref a), some (.int i2), none, none]) (st' := [.int i2, .ref (a + 7)]) (h' := h) (P := ((mxT a).1 = 9 ∧ mxG h) ∧ True) 3 rfl rfl ⟨⟨(congrArg Prod.fst (sV_0 hVa)), G⟩, trivial⟩ ?_
  obtain ⟨o1, H⟩ := H
  refine wp_call (b := false) (y' := 77) (as := [.ref (a + 7), .int i2]) (rest := []) (P := ((mxT (a + 7)).1 = mxRc 77 ∧ mxG h)) rfl (by with_unfolding_all rfl) ⟨(congrArg Prod.fst (sV_7 hVa)), G⟩ (Nat.le_of_ble_eq_true rfl) (sp_77 G hVa o1 ?_)
  show mx_wp (d + 1) 60 4 [some (.int i0), some (.ref a), some (.int i2), none, none] [.int (V_77 h a i2)] h Q
  refine wp_steps (i' := 9) (ls' := [some (.int i0), some (.ref a), some (.int i2), some (.int (V_77 h a i2)), none]) (st' := [.int (mx_i h (a + 7) 0), .int i0]) (h' := h) (P := ((mxT a).1 = 9 ∧ mxG h) ∧ ((mxT (a + 7)).1 = 7 ∧ mxG h) ∧ True) 5 rfl rfl ⟨⟨(congrArg Prod.fst (sV_0 hVa)), G⟩, ⟨(congrArg Prod.fst (sV_7 hVa)), G⟩, trivial⟩ ?_
  refine wp_br (P := True) (c := (mx_i h (a + 7) 0) ≤ i0) (t := 16) (st' := []) rfl rfl trivial (fun c2 => ?_) (fun c2 => ?_)
  · have c2 := Int32.not_lt.mpr c2
    have H := H.2 c2
    refine wp_steps (i' := 17) (ls' := [some (.int i0), some (.ref a), some (.int i2), some (.int (V_77 h a i2)), none]) (st' := [.int (V_77 h a i2)]) (h' := h) (P := True) 1 rfl rfl trivial ?_
    exact wp_end (o := .inl (some (.int (V_77 h a i2)))) (h' := h) (P := True) rfl rfl trivial H
  · have c2 := Int32.not_le.mp c2
    have H := H.1 c2
    refine wp_steps (i' := 13) (ls' := [some (.int i0), some (.ref a), some (.int i2), some (.int (V_77 h a i2)), none]) (st' := [.int i0, .ref (a + 7)]) (h' := h) (P := ((mxT a).1 = 9 ∧ mxG h) ∧ True) 3 rfl rfl ⟨⟨(congrArg Prod.fst (sV_0 hVa)), G⟩, trivial⟩ ?_
    obtain ⟨o3, H⟩ := H
    refine wp_call (b := false) (y' := 70) (as := [.ref (a + 7), .int i0]) (rest := []) (P := ((mxT (a + 7)).1 = mxRc 70 ∧ mxG h)) rfl (by with_unfolding_all rfl) ⟨(congrArg Prod.fst (sV_7 hVa)), G⟩ (Nat.le_of_ble_eq_true rfl) (sp_70 G hVa o3 ?_)
    show mx_wp (d + 1) 60 14 [some (.int i0), some (.ref a), some (.int i2), some (.int (V_77 h a i2)), none] [.int (V_70 h a i0)] h Q
    refine wp_steps (i' := 15) (ls' := [some (.int i0), some (.ref a), some (.int i2), some (.int (V_77 h a i2)), none]) (st' := [.int i2, .int (V_70 h a i0)]) (h' := h) (P := True) 1 rfl rfl trivial ?_
    refine wp_br (P := True) (c := (V_70 h a i0) = i2) (t := 18) (st' := []) rfl rfl trivial (fun c4 => ?_) (fun c4 => ?_)
    · skip
      have H := H.1 c4
      refine wp_steps (i' := 31) (ls' := [some (.int i0), some (.ref a), some (.int i2), some (.int (V_77 h a i2)), some (.int (mx_i h (a + 10) i0.toNatClampNeg))]) (st' := [.int (((V_77 h a i2) - (mx_i h (a + 10) i0.toNatClampNeg)) + ((mx_i h (a + 10) i0.toNatClampNeg) / 2))]) (h' := h) (P := ((mxT a).1 = 9 ∧ mxG h) ∧ ((mxT (a + 7)).1 = 7 ∧ mxG h) ∧ (((mxT (a + 10)).1 = 50 ∧ mxG h) ∧ vp_in i0 (mxT (a + 10)).2) ∧ (¬ (2 : Int32) = 0) ∧ True) 13 rfl rfl ⟨⟨(congrArg Prod.fst (sV_0 hVa)), G⟩, ⟨(congrArg Prod.fst (sV_7 hVa)), G⟩, (cA (sV_10 hVa) G o3), (by decide), trivial⟩ ?_
      exact wp_end (o := .inl (some (.int (((V_77 h a i2) - (mx_i h (a + 10) i0.toNatClampNeg)) + ((mx_i h (a + 10) i0.toNatClampNeg) / 2))))) (h' := h) (P := True) rfl rfl trivial H
    · skip
      have H := H.2 c4
      refine wp_steps (i' := 17) (ls' := [some (.int i0), some (.ref a), some (.int i2), some (.int (V_77 h a i2)), none]) (st' := [.int (V_77 h a i2)]) (h' := h) (P := True) 1 rfl rfl trivial ?_
      exact wp_end (o := .inl (some (.int (V_77 h a i2)))) (h' := h) (P := True) rfl rfl trivial H
def V_60 (h : mxH) (i0 : Int32) (a : Nat) (i2 : Int32) : Int32 := (if i0 < (mx_i h (a + 7) 0) then (if (V_70 h a i0) = i2 then (((V_77 h a i2) - (mx_i h (a + 10) i0.toNatClampNeg)) + ((mx_i h (a + 10) i0.toNatClampNeg) / 2)) else (V_77 h a i2)) else (V_77 h a i2))
theorem sp_60 {d : Nat} {h : mxH} {Q : mxO → mxH → Prop} {i0 : Int32} {a : Nat} {i2 : Int32} (G : mxG h) (hVa : (mxT a).1 = 9) (x0 : cB (mx_i h (a + 7) 0) 10) (x1 : ((i0 < (mx_i h (a + 7) 0) → (vp_in i0 10 ∧ True)) ∧ (¬ i0 < (mx_i h (a + 7) 0) → True))) (k : Q (.inl (some (.int (V_60 h i0 a i2)))) h) : mx_wp (d + 1) 60 0 (mx_fr 60 [.int i0, .ref a, .int i2]) [] h Q := by
  unfold V_60 at k
  have hob : (cB (mx_i h (a + 7) 0) 10 ∧ ((i0 < (mx_i h (a + 7) 0) → (vp_in i0 10 ∧ True)) ∧ (¬ i0 < (mx_i h (a + 7) 0) → True))) := ⟨x0, x1⟩
  refine tr_60_0 G hVa ?_
  obtain ⟨q0, hob⟩ := hob
  refine ⟨q0, ?_⟩
  refine ⟨fun c9 => ?_, fun c9 => ?_⟩
  · try simp only [if_pos c9] at k
    have hob := hob.1 c9
    obtain ⟨q0, hob⟩ := hob
    refine ⟨q0, ?_⟩
    refine ⟨fun c9 => ?_, fun c9 => ?_⟩
    · try simp only [if_pos c9] at k
      exact k
    · try simp only [if_neg c9] at k
      exact k
  · try simp only [if_neg c9] at k
    have hob := hob.2 c9
    exact k
/-! 59: StoneBacks$Scales.sinks(ILStoneBacks$Valley;II)I -/
set_option maxRecDepth 8000 in
theorem tr_59_0 {d : Nat} {h : mxH} {Q : mxO → mxH → Prop} {i0 : Int32} {a : Nat} {i2 : Int32} {i3 : Int32} (G : mxG h) (hVa : (mxT a).1 = 9) (H : (cB (mx_i h (a + 7) 0) 10 ∧ ((i0 < (mx_i h (a + 7) 0) → (vp_in i0 10 ∧ True)) ∧ (¬ i0 < (mx_i h (a + 7) 0) → True)) ∧ ((((V_60 h i0 a i2) - (V_60 h i0 a i3)) = 0 → Q (.inl (some (.int 1))) h) ∧ (¬ ((V_60 h i0 a i2) - (V_60 h i0 a i3)) = 0 → (∀ (v4 : Int32), v4 = ((if 0 < ((V_60 h i0 a i2) - (V_60 h i0 a i3)) then 0 else 2) : Int32) → Q (.inl (some (.int v4))) h))))) : mx_wp (d + 2) 59 0 (mx_fr 59 [.int i0, .ref a, .int i2, .int i3]) [] h Q := by
  show mx_wp (d + 2) 59 0 [some (.int i0), some (.ref a), some (.int i2), some (.int i3), none] [] h Q
  refine wp_steps (i' := 3) (ls' := [some (.int i0), some (.ref a), some (.int i2), some (.int i3), none]) (st' := [.int i2, .ref a, .int i0]) (h' := h) (P := True) 3 rfl rfl trivial ?_
  obtain ⟨o1, o2, H⟩ := H
  refine wp_call (b := false) (y' := 60) (as := [.int i0, .ref a, .int i2]) (rest := []) (P := True) rfl (by with_unfolding_all rfl) trivial (Nat.le_of_ble_eq_true rfl) (sp_60 G hVa o1 o2 ?_)
  show mx_wp (d + 2) 59 4 [some (.int i0), some (.ref a), some (.int i2), some (.int i3), none] [.int (V_60 h i0 a i2)] h Q
  refine wp_steps (i' := 7) (ls' := [some (.int i0), some (.ref a), some (.int i2), some (.int i3), none]) (st' := [.int i3, .ref a, .int i0, .int (V_60 h i0 a i2)]) (h' := h) (P := True) 3 rfl rfl trivial ?_
  refine wp_call (b := false) (y' := 60) (as := [.int i0, .ref a, .int i3]) (rest := [.int (V_60 h i0 a i2)]) (P := True) rfl (by with_unfolding_all rfl) trivial (Nat.le_of_ble_eq_true rfl) (sp_60 G hVa o1 o2 ?_)
  show mx_wp (d + 2) 59 8 [some (.int i0), some (.ref a), some (.int i2), some (.int i3), none] [.int (V_60 h i0 a i3), .int (V_60 h i0 a i2)] h Q
  refine wp_steps (i' := 11) (ls' := [some (.int i0), some (.ref a), some (.int i2), some (.int i3), some (.int ((V_60 h i0 a i2) - (V_60 h i0 a i3)))]) (st' := [.int ((V_60 h i0 a i2) - (V_60 h i0 a i3))]) (h' := h) (P := True) 3 rfl rfl trivial ?_
  refine wp_br (P := True) (c := ¬ ((V_60 h i0 a i2) - (V_60 h i0 a i3)) = 0) (t := 14) (st' := []) rfl rfl trivial (fun c3 => ?_) (fun c3 => ?_)
  · skip
    have H := H.2 c3
    refine wp_steps (i' := 15) (ls' := [some (.int i0), some (.ref a), some (.int i2), some (.int i3), some (.int ((V_60 h i0 a i2) - (V_60 h i0 a i3)))]) (st' := [.int ((V_60 h i0 a i2) - (V_60 h i0 a i3))]) (h' := h) (P := True) 1 rfl rfl trivial ?_
    have J : ∀ (v4 : Int32) (ev4 : v4 = ((if 0 < ((V_60 h i0 a i2) - (V_60 h i0 a i3)) then 0 else 2) : Int32)), mx_wp (d + 2) 59 19 [some (.int i0), some (.ref a), some (.int i2), some (.int i3), some (.int ((V_60 h i0 a i2) - (V_60 h i0 a i3)))] [.int v4] h Q := by
      intro v4 ev4
      have H := H v4 ev4
      exact wp_end (o := .inl (some (.int v4))) (h' := h) (P := True) rfl rfl trivial H
    refine wp_br (P := True) (c := ((V_60 h i0 a i2) - (V_60 h i0 a i3)) ≤ 0) (t := 18) (st' := []) rfl rfl trivial (fun c5 => ?_) (fun c5 => ?_)
    · have c5 := Int32.not_lt.mpr c5
      refine wp_steps (i' := 19) (ls' := [some (.int i0), some (.ref a), some (.int i2), some (.int i3), some (.int ((V_60 h i0 a i2) - (V_60 h i0 a i3)))]) (st' := [.int 2]) (h' := h) (P := True) 1 rfl rfl trivial ?_
      exact J _ (by rw [if_neg c5])
    · have c5 := Int32.not_le.mp c5
      refine wp_steps (i' := 17) (ls' := [some (.int i0), some (.ref a), some (.int i2), some (.int i3), some (.int ((V_60 h i0 a i2) - (V_60 h i0 a i3)))]) (st' := [.int 0]) (h' := h) (P := True) 1 rfl rfl trivial ?_
      refine wp_J (j := 19) (st' := [.int 0]) rfl rfl ?_
      exact J _ (by rw [if_pos c5])
  · have c3 := Decidable.of_not_not c3
    have H := H.1 c3
    refine wp_steps (i' := 13) (ls' := [some (.int i0), some (.ref a), some (.int i2), some (.int i3), some (.int ((V_60 h i0 a i2) - (V_60 h i0 a i3)))]) (st' := [.int 1]) (h' := h) (P := True) 1 rfl rfl trivial ?_
    exact wp_end (o := .inl (some (.int 1))) (h' := h) (P := True) rfl rfl trivial H
def V_59 (h : mxH) (i0 : Int32) (a : Nat) (i2 : Int32) (i3 : Int32) : Int32 := (if ((V_60 h i0 a i2) - (V_60 h i0 a i3)) = 0 then 1 else ((if 0 < ((V_60 h i0 a i2) - (V_60 h i0 a i3)) then 0 else 2) : Int32))
theorem sp_59 {d : Nat} {h : mxH} {Q : mxO → mxH → Prop} {i0 : Int32} {a : Nat} {i2 : Int32} {i3 : Int32} (G : mxG h) (hVa : (mxT a).1 = 9) (x0 : cB (mx_i h (a + 7) 0) 10) (x1 : ((i0 < (mx_i h (a + 7) 0) → (vp_in i0 10 ∧ True)) ∧ (¬ i0 < (mx_i h (a + 7) 0) → True))) (k : Q (.inl (some (.int (V_59 h i0 a i2 i3)))) h) : mx_wp (d + 2) 59 0 (mx_fr 59 [.int i0, .ref a, .int i2, .int i3]) [] h Q := by
  unfold V_59 at k
  have hob : (cB (mx_i h (a + 7) 0) 10 ∧ ((i0 < (mx_i h (a + 7) 0) → (vp_in i0 10 ∧ True)) ∧ (¬ i0 < (mx_i h (a + 7) 0) → True)) ∧ True) := ⟨x0, x1, trivial⟩
  refine tr_59_0 G hVa ?_
  obtain ⟨q0, q1, hob⟩ := hob
  refine ⟨q0, q1, ?_⟩
  refine ⟨fun c9 => ?_, fun c9 => ?_⟩
  · try simp only [if_pos c9] at k
    exact k
  · try simp only [if_neg c9] at k
    intro v4 ev4
    subst ev4
    exact k
/-! 58: StoneBacks$Scales.fitsAllRows(ILStoneBacks$Valley;)Z -/
def H_58_2 (d : Nat) (h : mxH) (a : Nat) (i1 : Int32) (i3 : Int32) (Q : mxO → mxH → Prop) : Prop := mx_wp d 58 2 [some (.ref 117), some (.int i1), some (.ref a), some (.int i3)] [] h Q
set_option maxRecDepth 8000 in
theorem tr_58_0 {d : Nat} {h : mxH} {Q : mxO → mxH → Prop} {i1 : Int32} {a : Nat} (G : mxG h) (hVa : (mxT a).1 = 9) (H : H_58_2 (d + 3) h a i1 0 Q) : mx_wp (d + 3) 58 0 (mx_fr 58 [.ref 117, .int i1, .ref a]) [] h Q := by
  show mx_wp (d + 3) 58 0 [some (.ref 117), some (.int i1), some (.ref a), none] [] h Q
  refine wp_steps (i' := 2) (ls' := [some (.ref 117), some (.int i1), some (.ref a), some (.int 0)]) (st' := []) (h' := h) (P := True) 2 rfl rfl trivial ?_
  exact H 
set_option maxRecDepth 8000 in
theorem tr_58_2 {d : Nat} {h : mxH} {Q : mxO → mxH → Prop} {a : Nat} {i1 : Int32} {i3 : Int32} (G : mxG h) (hVa : (mxT a).1 = 9) (H : ((i3 < (mx_i h 117 1) → (vp_in (i3 * 3) 36 ∧ vp_in ((i3 * 3) + 1) 36 ∧ (cB (mx_i h (a + 7) 0) 10 ∧ ((i1 < (mx_i h (a + 7) 0) → (vp_in i1 10 ∧ True)) ∧ (¬ i1 < (mx_i h (a + 7) 0) → True)) ∧ (vp_in ((i3 * 3) + 2) 36 ∧ (((V_59 h i1 a (mx_i h 118 (i3 * 3).toNatClampNeg) (mx_i h 118 ((i3 * 3) + 1).toNatClampNeg)) = (mx_i h 118 ((i3 * 3) + 2).toNatClampNeg) → H_58_2 (d + 3) h a i1 (i3 + 1) Q) ∧ (¬ (V_59 h i1 a (mx_i h 118 (i3 * 3).toNatClampNeg) (mx_i h 118 ((i3 * 3) + 1).toNatClampNeg)) = (mx_i h 118 ((i3 * 3) + 2).toNatClampNeg) → Q (.inl (some (.int 0))) h)))))) ∧ (¬ i3 < (mx_i h 117 1) → Q (.inl (some (.int 1))) h))) : H_58_2 (d + 3) h a i1 i3 Q := by
  show mx_wp (d + 3) 58 2 [some (.ref 117), some (.int i1), some (.ref a), some (.int i3)] [] h Q
  refine wp_steps (i' := 5) (ls' := [some (.ref 117), some (.int i1), some (.ref a), some (.int i3)]) (st' := [.int (mx_i h 117 1), .int i3]) (h' := h) (P := ((mxT 117).1 = 6 ∧ mxG h) ∧ True) 3 rfl rfl ⟨⟨(congrArg Prod.fst sT_117), G⟩, trivial⟩ ?_
  refine wp_br (P := True) (c := (mx_i h 117 1) ≤ i3) (t := 36) (st' := []) rfl rfl trivial (fun c1 => ?_) (fun c1 => ?_)
  · have c1 := Int32.not_lt.mpr c1
    have H := H.2 c1
    refine wp_steps (i' := 37) (ls' := [some (.ref 117), some (.int i1), some (.ref a), some (.int i3)]) (st' := [.int 1]) (h' := h) (P := True) 1 rfl rfl trivial ?_
    exact wp_end (o := .inl (some (.int 1))) (h' := h) (P := ((1 : Int32) = 0 ∨ (1 : Int32) = 1)) rfl rfl (Or.inr rfl) H
  · have c1 := Int32.not_le.mp c1
    have H := H.1 c1
    obtain ⟨o2, o3, H⟩ := H
    refine wp_steps (i' := 22) (ls' := [some (.ref 117), some (.int i1), some (.ref a), some (.int i3)]) (st' := [.int (mx_i h 118 ((i3 * 3) + 1).toNatClampNeg), .int (mx_i h 118 (i3 * 3).toNatClampNeg), .ref a, .int i1]) (h' := h) (P := ((mxT 117).1 = 6 ∧ mxG h) ∧ (((mxT 118).1 = 50 ∧ mxG h) ∧ vp_in (i3 * 3) (mxT 118).2) ∧ ((mxT 117).1 = 6 ∧ mxG h) ∧ (((mxT 118).1 = 50 ∧ mxG h) ∧ vp_in ((i3 * 3) + 1) (mxT 118).2) ∧ True) 16 rfl rfl ⟨⟨(congrArg Prod.fst sT_117), G⟩, (cA sT_118 G o2), ⟨(congrArg Prod.fst sT_117), G⟩, (cA sT_118 G o3), trivial⟩ ?_
    obtain ⟨o4, o5, H⟩ := H
    refine wp_call (b := false) (y' := 59) (as := [.int i1, .ref a, .int (mx_i h 118 (i3 * 3).toNatClampNeg), .int (mx_i h 118 ((i3 * 3) + 1).toNatClampNeg)]) (rest := []) (P := True) rfl (by with_unfolding_all rfl) trivial (Nat.le_of_ble_eq_true rfl) (sp_59 G hVa o4 o5 ?_)
    show mx_wp (d + 3) 58 23 [some (.ref 117), some (.int i1), some (.ref a), some (.int i3)] [.int (V_59 h i1 a (mx_i h 118 (i3 * 3).toNatClampNeg) (mx_i h 118 ((i3 * 3) + 1).toNatClampNeg))] h Q
    obtain ⟨o6, H⟩ := H
    refine wp_steps (i' := 31) (ls' := [some (.ref 117), some (.int i1), some (.ref a), some (.int i3)]) (st' := [.int (mx_i h 118 ((i3 * 3) + 2).toNatClampNeg), .int (V_59 h i1 a (mx_i h 118 (i3 * 3).toNatClampNeg) (mx_i h 118 ((i3 * 3) + 1).toNatClampNeg))]) (h' := h) (P := ((mxT 117).1 = 6 ∧ mxG h) ∧ (((mxT 118).1 = 50 ∧ mxG h) ∧ vp_in ((i3 * 3) + 2) (mxT 118).2) ∧ True) 8 rfl rfl ⟨⟨(congrArg Prod.fst sT_117), G⟩, (cA sT_118 G o6), trivial⟩ ?_
    refine wp_br (P := True) (c := (V_59 h i1 a (mx_i h 118 (i3 * 3).toNatClampNeg) (mx_i h 118 ((i3 * 3) + 1).toNatClampNeg)) = (mx_i h 118 ((i3 * 3) + 2).toNatClampNeg)) (t := 34) (st' := []) rfl rfl trivial (fun c7 => ?_) (fun c7 => ?_)
    · skip
      have H := H.1 c7
      refine wp_steps (i' := 35) (ls' := [some (.ref 117), some (.int i1), some (.ref a), some (.int (i3 + 1))]) (st' := []) (h' := h) (P := True) 1 rfl rfl trivial ?_
      refine wp_J (j := 2) (st' := []) rfl rfl ?_
      exact H 
    · skip
      have H := H.2 c7
      refine wp_steps (i' := 33) (ls' := [some (.ref 117), some (.int i1), some (.ref a), some (.int i3)]) (st' := [.int 0]) (h' := h) (P := True) 1 rfl rfl trivial ?_
      exact wp_end (o := .inl (some (.int 0))) (h' := h) (P := ((0 : Int32) = 0 ∨ (0 : Int32) = 1)) rfl rfl (Or.inl rfl) H
/-! 61: StoneBacks$Scales.stonesThatCanBe()I -/
set_option maxRecDepth 8000 in
theorem tr_61_0 {d : Nat} {h : mxH} {Q : mxO → mxH → Prop}  (G : mxG h)  (H : Q (.inl (some (.int ((mx_i h 117 2) &&& 1023)))) h) : mx_wp d 61 0 (mx_fr 61 [.ref 117]) [] h Q := by
  show mx_wp d 61 0 [some (.ref 117)] [] h Q
  refine wp_steps (i' := 4) (ls' := [some (.ref 117)]) (st' := [.int ((mx_i h 117 2) &&& 1023)]) (h' := h) (P := ((mxT 117).1 = 6 ∧ mxG h) ∧ True) 4 rfl rfl ⟨⟨(congrArg Prod.fst sT_117), G⟩, trivial⟩ ?_
  exact wp_end (o := .inl (some (.int ((mx_i h 117 2) &&& 1023)))) (h' := h) (P := True) rfl rfl trivial H
def V_61 (h : mxH) : Int32 := ((mx_i h 117 2) &&& 1023)
theorem sp_61 {d : Nat} {h : mxH} {Q : mxO → mxH → Prop}  (G : mxG h)  (k : Q (.inl (some (.int (V_61 h)))) h) : mx_wp d 61 0 (mx_fr 61 [.ref 117]) [] h Q := by
  unfold V_61 at k
  refine tr_61_0 G  ?_
  exact k
/-! 62: StoneBacks$Scales.canBeNone()Z -/
set_option maxRecDepth 8000 in
theorem tr_62_0 {d : Nat} {h : mxH} {Q : mxO → mxH → Prop}  (G : mxG h)  (H : (∀ (v1 : Int32), v1 = ((if (((mx_i h 117 2) >>> (10 &&& 31)) &&& 1) = 1 then 1 else 0) : Int32) → Q (.inl (some (.int v1))) h)) : mx_wp d 62 0 (mx_fr 62 [.ref 117]) [] h Q := by
  show mx_wp d 62 0 [some (.ref 117)] [] h Q
  refine wp_steps (i' := 7) (ls' := [some (.ref 117)]) (st' := [.int 1, .int (((mx_i h 117 2) >>> (10 &&& 31)) &&& 1)]) (h' := h) (P := ((mxT 117).1 = 6 ∧ mxG h) ∧ True) 7 rfl rfl ⟨⟨(congrArg Prod.fst sT_117), G⟩, trivial⟩ ?_
  have J : ∀ (v1 : Int32) (ev1 : v1 = ((if (((mx_i h 117 2) >>> (10 &&& 31)) &&& 1) = 1 then 1 else 0) : Int32)), mx_wp d 62 11 [some (.ref 117)] [.int v1] h Q := by
    intro v1 ev1
    have H := H v1 ev1
    exact wp_end (o := .inl (some (.int v1))) (h' := h) (P := (v1 = 0 ∨ v1 = 1)) rfl rfl (b01 ev1 (by repeat' (first | exact Or.inl rfl | exact Or.inr rfl | split))) H
  refine wp_br (P := True) (c := ¬ (((mx_i h 117 2) >>> (10 &&& 31)) &&& 1) = 1) (t := 10) (st' := []) rfl rfl trivial (fun c2 => ?_) (fun c2 => ?_)
  · skip
    refine wp_steps (i' := 11) (ls' := [some (.ref 117)]) (st' := [.int 0]) (h' := h) (P := True) 1 rfl rfl trivial ?_
    exact J _ (by rw [if_neg c2])
  · have c2 := Decidable.of_not_not c2
    refine wp_steps (i' := 9) (ls' := [some (.ref 117)]) (st' := [.int 1]) (h' := h) (P := True) 1 rfl rfl trivial ?_
    refine wp_J (j := 11) (st' := [.int 1]) rfl rfl ?_
    exact J _ (by rw [if_pos c2])
def V_62 (h : mxH) : Int32 := ((if (((mx_i h 117 2) >>> (10 &&& 31)) &&& 1) = 1 then 1 else 0) : Int32)
theorem sp_62 {d : Nat} {h : mxH} {Q : mxO → mxH → Prop}  (G : mxG h)  (k : Q (.inl (some (.int (V_62 h)))) h) : mx_wp d 62 0 (mx_fr 62 [.ref 117]) [] h Q := by
  unfold V_62 at k
  refine tr_62_0 G  ?_
  intro v1 ev1
  subst ev1
  exact k
/-! 64: StoneBacks$Scales.greatestPart(LStoneBacks$Valley;II)I -/
def H_64_8 (d : Nat) (h : mxH) (a : Nat) (i2 : Int32) (i3 : Int32) (i4 : Int32) (i5 : Int32) (i6 : Int32) (i7 : Int32) (Q : mxO → mxH → Prop) : Prop := ∀ (w8 : Option Value), mx_wp d 64 8 [some (.ref 117), some (.ref a), some (.int i2), some (.int i3), some (.int i4), some (.int i5), some (.int i6), some (.int i7), w8] [] h Q
set_option maxRecDepth 8000 in
theorem tr_64_0 {d : Nat} {h : mxH} {Q : mxO → mxH → Prop} {a : Nat} {i2 : Int32} {i3 : Int32} (G : mxG h) (hVa : (mxT a).1 = 9) (H : H_64_8 (d + 3) h a i2 i3 0 0 0 0 Q) : mx_wp (d + 3) 64 0 (mx_fr 64 [.ref 117, .ref a, .int i2, .int i3]) [] h Q := by
  show mx_wp (d + 3) 64 0 [some (.ref 117), some (.ref a), some (.int i2), some (.int i3), none, none, none, none, none] [] h Q
  refine wp_steps (i' := 8) (ls' := [some (.ref 117), some (.ref a), some (.int i2), some (.int i3), some (.int 0), some (.int 0), some (.int 0), some (.int 0), none]) (st' := []) (h' := h) (P := True) 8 rfl rfl trivial ?_
  exact H _
set_option maxRecDepth 8000 in
theorem tr_64_8 {d : Nat} {h : mxH} {Q : mxO → mxH → Prop} {a : Nat} {i2 : Int32} {i3 : Int32} {i4 : Int32} {i5 : Int32} {i6 : Int32} {i7 : Int32} (G : mxG h) (hVa : (mxT a).1 = 9) (H : ((10 < i7 → Q (.inl (some (.int (if i4 < (if i5 < i6 then i6 else i5) then (if i5 < i6 then i6 else i5) else i4)))) h) ∧ (¬ 10 < i7 → ((((((mx_i h 117 2) >>> (i7 &&& 31)) &&& 1) = 1 → (cB (mx_i h (a + 7) 0) 10 ∧ ((i7 < (mx_i h (a + 7) 0) → (vp_in i7 10 ∧ True)) ∧ (¬ i7 < (mx_i h (a + 7) 0) → True)) ∧ True)) ∧ (¬ (((mx_i h 117 2) >>> (i7 &&& 31)) &&& 1) = 1 → True)) ∧ (∀ (v2 : Int32), v2 = ((if (((mx_i h 117 2) >>> (i7 &&& 31)) &&& 1) = 1 then (if (V_59 h i7 a i2 i3) = 0 then (if (V_59 h i7 a i2 i3) = 1 then (if (V_59 h i7 a i2 i3) = 2 then (i4 + 1) else (i4 + 1)) else (if (V_59 h i7 a i2 i3) = 2 then (i4 + 1) else (i4 + 1))) else (if (V_59 h i7 a i2 i3) = 1 then (if (V_59 h i7 a i2 i3) = 2 then (i4 + 0) else (i4 + 0)) else (if (V_59 h i7 a i2 i3) = 2 then (i4 + 0) else (i4 + 0)))) else i4) : Int32) → (∀ (v3 : Int32), v3 = ((if (((mx_i h 117 2) >>> (i7 &&& 31)) &&& 1) = 1 then (if (V_59 h i7 a i2 i3) = 0 then (if (V_59 h i7 a i2 i3) = 1 then (if (V_59 h i7 a i2 i3) = 2 then (i5 + 1) else (i5 + 1)) else (if (V_59 h i7 a i2 i3) = 2 then (i5 + 0) else (i5 + 0))) else (if (V_59 h i7 a i2 i3) = 1 then (if (V_59 h i7 a i2 i3) = 2 then (i5 + 1) else (i5 + 1)) else (if (V_59 h i7 a i2 i3) = 2 then (i5 + 0) else (i5 + 0)))) else i5) : Int32) → (∀ (v4 : Int32), v4 = ((if (((mx_i h 117 2) >>> (i7 &&& 31)) &&& 1) = 1 then (if (V_59 h i7 a i2 i3) = 0 then (if (V_59 h i7 a i2 i3) = 1 then (if (V_59 h i7 a i2 i3) = 2 then (i6 + 1) else (i6 + 0)) else (if (V_59 h i7 a i2 i3) = 2 then (i6 + 1) else (i6 + 0))) else (if (V_59 h i7 a i2 i3) = 1 then (if (V_59 h i7 a i2 i3) = 2 then (i6 + 1) else (i6 + 0)) else (if (V_59 h i7 a i2 i3) = 2 then (i6 + 1) else (i6 + 0)))) else i6) : Int32) → H_64_8 (d + 3) h a i2 i3 v2 v3 v4 (i7 + 1) Q))))))) : H_64_8 (d + 3) h a i2 i3 i4 i5 i6 i7 Q := by
  intro w8
  show mx_wp (d + 3) 64 8 [some (.ref 117), some (.ref a), some (.int i2), some (.int i3), some (.int i4), some (.int i5), some (.int i6), some (.int i7), w8] [] h Q
  refine wp_steps (i' := 10) (ls' := [some (.ref 117), some (.ref a), some (.int i2), some (.int i3), some (.int i4), some (.int i5), some (.int i6), some (.int i7), w8]) (st' := [.int 10, .int i7]) (h' := h) (P := True) 2 rfl rfl trivial ?_
  refine wp_br (P := True) (c := 10 < i7) (t := 53) (st' := []) rfl rfl trivial (fun c1 => ?_) (fun c1 => ?_)
  · skip
    have H := H.1 c1
    refine wp_steps (i' := 58) (ls' := [some (.ref 117), some (.ref a), some (.int i2), some (.int i3), some (.int i4), some (.int i5), some (.int i6), some (.int i7), w8]) (st' := [.int (if i4 < (if i5 < i6 then i6 else i5) then (if i5 < i6 then i6 else i5) else i4)]) (h' := h) (P := ((([.int i4] : List Value).map mx_cat).sum ≤ 8) ∧ ((([] : List Value).map mx_cat).sum ≤ 8) ∧ True) 5 rfl rfl ⟨(Nat.le_of_ble_eq_true rfl), (Nat.le_of_ble_eq_true rfl), trivial⟩ ?_
    exact wp_end (o := .inl (some (.int (if i4 < (if i5 < i6 then i6 else i5) then (if i5 < i6 then i6 else i5) else i4)))) (h' := h) (P := True) rfl rfl trivial H
  · skip
    have H := H.2 c1
    refine wp_steps (i' := 18) (ls' := [some (.ref 117), some (.ref a), some (.int i2), some (.int i3), some (.int i4), some (.int i5), some (.int i6), some (.int i7), w8]) (st' := [.int 1, .int (((mx_i h 117 2) >>> (i7 &&& 31)) &&& 1)]) (h' := h) (P := ((mxT 117).1 = 6 ∧ mxG h) ∧ True) 7 rfl rfl ⟨⟨(congrArg Prod.fst sT_117), G⟩, trivial⟩ ?_
    have J : ∀ (v2 : Int32) (v3 : Int32) (v4 : Int32) (w5 : Option Value) (ev2 : v2 = ((if (((mx_i h 117 2) >>> (i7 &&& 31)) &&& 1) = 1 then (if (V_59 h i7 a i2 i3) = 0 then (if (V_59 h i7 a i2 i3) = 1 then (if (V_59 h i7 a i2 i3) = 2 then (i4 + 1) else (i4 + 1)) else (if (V_59 h i7 a i2 i3) = 2 then (i4 + 1) else (i4 + 1))) else (if (V_59 h i7 a i2 i3) = 1 then (if (V_59 h i7 a i2 i3) = 2 then (i4 + 0) else (i4 + 0)) else (if (V_59 h i7 a i2 i3) = 2 then (i4 + 0) else (i4 + 0)))) else i4) : Int32)) (ev3 : v3 = ((if (((mx_i h 117 2) >>> (i7 &&& 31)) &&& 1) = 1 then (if (V_59 h i7 a i2 i3) = 0 then (if (V_59 h i7 a i2 i3) = 1 then (if (V_59 h i7 a i2 i3) = 2 then (i5 + 1) else (i5 + 1)) else (if (V_59 h i7 a i2 i3) = 2 then (i5 + 0) else (i5 + 0))) else (if (V_59 h i7 a i2 i3) = 1 then (if (V_59 h i7 a i2 i3) = 2 then (i5 + 1) else (i5 + 1)) else (if (V_59 h i7 a i2 i3) = 2 then (i5 + 0) else (i5 + 0)))) else i5) : Int32)) (ev4 : v4 = ((if (((mx_i h 117 2) >>> (i7 &&& 31)) &&& 1) = 1 then (if (V_59 h i7 a i2 i3) = 0 then (if (V_59 h i7 a i2 i3) = 1 then (if (V_59 h i7 a i2 i3) = 2 then (i6 + 1) else (i6 + 0)) else (if (V_59 h i7 a i2 i3) = 2 then (i6 + 1) else (i6 + 0))) else (if (V_59 h i7 a i2 i3) = 1 then (if (V_59 h i7 a i2 i3) = 2 then (i6 + 1) else (i6 + 0)) else (if (V_59 h i7 a i2 i3) = 2 then (i6 + 1) else (i6 + 0)))) else i6) : Int32)), mx_wp (d + 3) 64 51 [some (.ref 117), some (.ref a), some (.int i2), some (.int i3), some (.int v2), some (.int v3), some (.int v4), some (.int i7), w5] [] h Q := by
      intro v2 v3 v4 w5 ev2 ev3 ev4
      have H := H.2 v2 ev2 v3 ev3 v4 ev4
      refine wp_steps (i' := 52) (ls' := [some (.ref 117), some (.ref a), some (.int i2), some (.int i3), some (.int v2), some (.int v3), some (.int v4), some (.int (i7 + 1)), w5]) (st' := []) (h' := h) (P := True) 1 rfl rfl trivial ?_
      refine wp_J (j := 8) (st' := []) rfl rfl ?_
      exact H _
    have H := H.1
    refine wp_br (P := True) (c := ¬ (((mx_i h 117 2) >>> (i7 &&& 31)) &&& 1) = 1) (t := 51) (st' := []) rfl rfl trivial (fun c6 => ?_) (fun c6 => ?_)
    · skip
      exact J _ _ _ _ (by rw [if_neg c6]) (by rw [if_neg c6]) (by rw [if_neg c6])
    · have c6 := Decidable.of_not_not c6
      have H := H.1 c6
      refine wp_steps (i' := 23) (ls' := [some (.ref 117), some (.ref a), some (.int i2), some (.int i3), some (.int i4), some (.int i5), some (.int i6), some (.int i7), w8]) (st' := [.int i3, .int i2, .ref a, .int i7]) (h' := h) (P := True) 4 rfl rfl trivial ?_
      obtain ⟨o7, o8, H⟩ := H
      refine wp_call (b := false) (y' := 59) (as := [.int i7, .ref a, .int i2, .int i3]) (rest := []) (P := True) rfl (by with_unfolding_all rfl) trivial (Nat.le_of_ble_eq_true rfl) (sp_59 G hVa o7 o8 ?_)
      show mx_wp (d + 3) 64 24 [some (.ref 117), some (.ref a), some (.int i2), some (.int i3), some (.int i4), some (.int i5), some (.int i6), some (.int i7), w8] [.int (V_59 h i7 a i2 i3)] h Q
      refine wp_steps (i' := 27) (ls' := [some (.ref 117), some (.ref a), some (.int i2), some (.int i3), some (.int i4), some (.int i5), some (.int i6), some (.int i7), some (.int (V_59 h i7 a i2 i3))]) (st' := [.int (V_59 h i7 a i2 i3), .int i4]) (h' := h) (P := True) 3 rfl rfl trivial ?_
      refine wp_br (P := True) (c := ¬ (V_59 h i7 a i2 i3) = 0) (t := 30) (st' := [.int i4]) rfl rfl trivial (fun c9 => ?_) (fun c9 => ?_)
      · skip
        refine wp_steps (i' := 36) (ls' := [some (.ref 117), some (.ref a), some (.int i2), some (.int i3), some (.int (i4 + 0)), some (.int i5), some (.int i6), some (.int i7), some (.int (V_59 h i7 a i2 i3))]) (st' := [.int 1, .int (V_59 h i7 a i2 i3), .int i5]) (h' := h) (P := True) 6 rfl rfl trivial ?_
        refine wp_br (P := True) (c := ¬ (V_59 h i7 a i2 i3) = 1) (t := 39) (st' := [.int i5]) rfl rfl trivial (fun c10 => ?_) (fun c10 => ?_)
        · skip
          refine wp_steps (i' := 45) (ls' := [some (.ref 117), some (.ref a), some (.int i2), some (.int i3), some (.int (i4 + 0)), some (.int (i5 + 0)), some (.int i6), some (.int i7), some (.int (V_59 h i7 a i2 i3))]) (st' := [.int 2, .int (V_59 h i7 a i2 i3), .int i6]) (h' := h) (P := True) 6 rfl rfl trivial ?_
          refine wp_br (P := True) (c := ¬ (V_59 h i7 a i2 i3) = 2) (t := 48) (st' := [.int i6]) rfl rfl trivial (fun c11 => ?_) (fun c11 => ?_)
          · skip
            refine wp_steps (i' := 51) (ls' := [some (.ref 117), some (.ref a), some (.int i2), some (.int i3), some (.int (i4 + 0)), some (.int (i5 + 0)), some (.int (i6 + 0)), some (.int i7), some (.int (V_59 h i7 a i2 i3))]) (st' := []) (h' := h) (P := True) 3 rfl rfl trivial ?_
            exact J _ _ _ _ (by rw [if_pos c6, if_neg c9, if_neg c10, if_neg c11]) (by rw [if_pos c6, if_neg c9, if_neg c10, if_neg c11]) (by rw [if_pos c6, if_neg c9, if_neg c10, if_neg c11])
          · have c11 := Decidable.of_not_not c11
            refine wp_steps (i' := 47) (ls' := [some (.ref 117), some (.ref a), some (.int i2), some (.int i3), some (.int (i4 + 0)), some (.int (i5 + 0)), some (.int i6), some (.int i7), some (.int (V_59 h i7 a i2 i3))]) (st' := [.int 1, .int i6]) (h' := h) (P := True) 1 rfl rfl trivial ?_
            refine wp_J (j := 49) (st' := [.int 1, .int i6]) rfl rfl ?_
            refine wp_steps (i' := 51) (ls' := [some (.ref 117), some (.ref a), some (.int i2), some (.int i3), some (.int (i4 + 0)), some (.int (i5 + 0)), some (.int (i6 + 1)), some (.int i7), some (.int (V_59 h i7 a i2 i3))]) (st' := []) (h' := h) (P := True) 2 rfl rfl trivial ?_
            exact J _ _ _ _ (by rw [if_pos c6, if_neg c9, if_neg c10, if_pos c11]) (by rw [if_pos c6, if_neg c9, if_neg c10, if_pos c11]) (by rw [if_pos c6, if_neg c9, if_neg c10, if_pos c11])
        · have c10 := Decidable.of_not_not c10
          refine wp_steps (i' := 38) (ls' := [some (.ref 117), some (.ref a), some (.int i2), some (.int i3), some (.int (i4 + 0)), some (.int i5), some (.int i6), some (.int i7), some (.int (V_59 h i7 a i2 i3))]) (st' := [.int 1, .int i5]) (h' := h) (P := True) 1 rfl rfl trivial ?_
          refine wp_J (j := 40) (st' := [.int 1, .int i5]) rfl rfl ?_
          refine wp_steps (i' := 45) (ls' := [some (.ref 117), some (.ref a), some (.int i2), some (.int i3), some (.int (i4 + 0)), some (.int (i5 + 1)), some (.int i6), some (.int i7), some (.int (V_59 h i7 a i2 i3))]) (st' := [.int 2, .int (V_59 h i7 a i2 i3), .int i6]) (h' := h) (P := True) 5 rfl rfl trivial ?_
          refine wp_br (P := True) (c := ¬ (V_59 h i7 a i2 i3) = 2) (t := 48) (st' := [.int i6]) rfl rfl trivial (fun c12 => ?_) (fun c12 => ?_)
          · skip
            refine wp_steps (i' := 51) (ls' := [some (.ref 117), some (.ref a), some (.int i2), some (.int i3), some (.int (i4 + 0)), some (.int (i5 + 1)), some (.int (i6 + 0)), some (.int i7), some (.int (V_59 h i7 a i2 i3))]) (st' := []) (h' := h) (P := True) 3 rfl rfl trivial ?_
            exact J _ _ _ _ (by rw [if_pos c6, if_neg c9, if_pos c10, if_neg c12]) (by rw [if_pos c6, if_neg c9, if_pos c10, if_neg c12]) (by rw [if_pos c6, if_neg c9, if_pos c10, if_neg c12])
          · have c12 := Decidable.of_not_not c12
            refine wp_steps (i' := 47) (ls' := [some (.ref 117), some (.ref a), some (.int i2), some (.int i3), some (.int (i4 + 0)), some (.int (i5 + 1)), some (.int i6), some (.int i7), some (.int (V_59 h i7 a i2 i3))]) (st' := [.int 1, .int i6]) (h' := h) (P := True) 1 rfl rfl trivial ?_
            refine wp_J (j := 49) (st' := [.int 1, .int i6]) rfl rfl ?_
            refine wp_steps (i' := 51) (ls' := [some (.ref 117), some (.ref a), some (.int i2), some (.int i3), some (.int (i4 + 0)), some (.int (i5 + 1)), some (.int (i6 + 1)), some (.int i7), some (.int (V_59 h i7 a i2 i3))]) (st' := []) (h' := h) (P := True) 2 rfl rfl trivial ?_
            exact J _ _ _ _ (by rw [if_pos c6, if_neg c9, if_pos c10, if_pos c12]) (by rw [if_pos c6, if_neg c9, if_pos c10, if_pos c12]) (by rw [if_pos c6, if_neg c9, if_pos c10, if_pos c12])
      · have c9 := Decidable.of_not_not c9
        refine wp_steps (i' := 29) (ls' := [some (.ref 117), some (.ref a), some (.int i2), some (.int i3), some (.int i4), some (.int i5), some (.int i6), some (.int i7), some (.int (V_59 h i7 a i2 i3))]) (st' := [.int 1, .int i4]) (h' := h) (P := True) 1 rfl rfl trivial ?_
        refine wp_J (j := 31) (st' := [.int 1, .int i4]) rfl rfl ?_
        refine wp_steps (i' := 36) (ls' := [some (.ref 117), some (.ref a), some (.int i2), some (.int i3), some (.int (i4 + 1)), some (.int i5), some (.int i6), some (.int i7), some (.int (V_59 h i7 a i2 i3))]) (st' := [.int 1, .int (V_59 h i7 a i2 i3), .int i5]) (h' := h) (P := True) 5 rfl rfl trivial ?_
        refine wp_br (P := True) (c := ¬ (V_59 h i7 a i2 i3) = 1) (t := 39) (st' := [.int i5]) rfl rfl trivial (fun c13 => ?_) (fun c13 => ?_)
        · skip
          refine wp_steps (i' := 45) (ls' := [some (.ref 117), some (.ref a), some (.int i2), some (.int i3), some (.int (i4 + 1)), some (.int (i5 + 0)), some (.int i6), some (.int i7), some (.int (V_59 h i7 a i2 i3))]) (st' := [.int 2, .int (V_59 h i7 a i2 i3), .int i6]) (h' := h) (P := True) 6 rfl rfl trivial ?_
          refine wp_br (P := True) (c := ¬ (V_59 h i7 a i2 i3) = 2) (t := 48) (st' := [.int i6]) rfl rfl trivial (fun c14 => ?_) (fun c14 => ?_)
          · skip
            refine wp_steps (i' := 51) (ls' := [some (.ref 117), some (.ref a), some (.int i2), some (.int i3), some (.int (i4 + 1)), some (.int (i5 + 0)), some (.int (i6 + 0)), some (.int i7), some (.int (V_59 h i7 a i2 i3))]) (st' := []) (h' := h) (P := True) 3 rfl rfl trivial ?_
            exact J _ _ _ _ (by rw [if_pos c6, if_pos c9, if_neg c13, if_neg c14]) (by rw [if_pos c6, if_pos c9, if_neg c13, if_neg c14]) (by rw [if_pos c6, if_pos c9, if_neg c13, if_neg c14])
          · have c14 := Decidable.of_not_not c14
            refine wp_steps (i' := 47) (ls' := [some (.ref 117), some (.ref a), some (.int i2), some (.int i3), some (.int (i4 + 1)), some (.int (i5 + 0)), some (.int i6), some (.int i7), some (.int (V_59 h i7 a i2 i3))]) (st' := [.int 1, .int i6]) (h' := h) (P := True) 1 rfl rfl trivial ?_
            refine wp_J (j := 49) (st' := [.int 1, .int i6]) rfl rfl ?_
            refine wp_steps (i' := 51) (ls' := [some (.ref 117), some (.ref a), some (.int i2), some (.int i3), some (.int (i4 + 1)), some (.int (i5 + 0)), some (.int (i6 + 1)), some (.int i7), some (.int (V_59 h i7 a i2 i3))]) (st' := []) (h' := h) (P := True) 2 rfl rfl trivial ?_
            exact J _ _ _ _ (by rw [if_pos c6, if_pos c9, if_neg c13, if_pos c14]) (by rw [if_pos c6, if_pos c9, if_neg c13, if_pos c14]) (by rw [if_pos c6, if_pos c9, if_neg c13, if_pos c14])
        · have c13 := Decidable.of_not_not c13
          refine wp_steps (i' := 38) (ls' := [some (.ref 117), some (.ref a), some (.int i2), some (.int i3), some (.int (i4 + 1)), some (.int i5), some (.int i6), some (.int i7), some (.int (V_59 h i7 a i2 i3))]) (st' := [.int 1, .int i5]) (h' := h) (P := True) 1 rfl rfl trivial ?_
          refine wp_J (j := 40) (st' := [.int 1, .int i5]) rfl rfl ?_
          refine wp_steps (i' := 45) (ls' := [some (.ref 117), some (.ref a), some (.int i2), some (.int i3), some (.int (i4 + 1)), some (.int (i5 + 1)), some (.int i6), some (.int i7), some (.int (V_59 h i7 a i2 i3))]) (st' := [.int 2, .int (V_59 h i7 a i2 i3), .int i6]) (h' := h) (P := True) 5 rfl rfl trivial ?_
          refine wp_br (P := True) (c := ¬ (V_59 h i7 a i2 i3) = 2) (t := 48) (st' := [.int i6]) rfl rfl trivial (fun c15 => ?_) (fun c15 => ?_)
          · skip
            refine wp_steps (i' := 51) (ls' := [some (.ref 117), some (.ref a), some (.int i2), some (.int i3), some (.int (i4 + 1)), some (.int (i5 + 1)), some (.int (i6 + 0)), some (.int i7), some (.int (V_59 h i7 a i2 i3))]) (st' := []) (h' := h) (P := True) 3 rfl rfl trivial ?_
            exact J _ _ _ _ (by rw [if_pos c6, if_pos c9, if_pos c13, if_neg c15]) (by rw [if_pos c6, if_pos c9, if_pos c13, if_neg c15]) (by rw [if_pos c6, if_pos c9, if_pos c13, if_neg c15])
          · have c15 := Decidable.of_not_not c15
            refine wp_steps (i' := 47) (ls' := [some (.ref 117), some (.ref a), some (.int i2), some (.int i3), some (.int (i4 + 1)), some (.int (i5 + 1)), some (.int i6), some (.int i7), some (.int (V_59 h i7 a i2 i3))]) (st' := [.int 1, .int i6]) (h' := h) (P := True) 1 rfl rfl trivial ?_
            refine wp_J (j := 49) (st' := [.int 1, .int i6]) rfl rfl ?_
            refine wp_steps (i' := 51) (ls' := [some (.ref 117), some (.ref a), some (.int i2), some (.int i3), some (.int (i4 + 1)), some (.int (i5 + 1)), some (.int (i6 + 1)), some (.int i7), some (.int (V_59 h i7 a i2 i3))]) (st' := []) (h' := h) (P := True) 2 rfl rfl trivial ?_
            exact J _ _ _ _ (by rw [if_pos c6, if_pos c9, if_pos c13, if_pos c15]) (by rw [if_pos c6, if_pos c9, if_pos c13, if_pos c15]) (by rw [if_pos c6, if_pos c9, if_pos c13, if_pos c15])
def F_64_8 (h : mxH) (a : Nat) (i2 : Int32) (i3 : Int32) (z : Nat) (s : (Int32 × Int32 × Int32)) : (Int32 × Int32 × Int32) := (((if (((mx_i h 117 2) >>> ((nI z) &&& 31)) &&& 1) = 1 then (if (V_59 h (nI z) a i2 i3) = 0 then (if (V_59 h (nI z) a i2 i3) = 1 then (if (V_59 h (nI z) a i2 i3) = 2 then (s.1 + 1) else (s.1 + 1)) else (if (V_59 h (nI z) a i2 i3) = 2 then (s.1 + 1) else (s.1 + 1))) else (if (V_59 h (nI z) a i2 i3) = 1 then (if (V_59 h (nI z) a i2 i3) = 2 then (s.1 + 0) else (s.1 + 0)) else (if (V_59 h (nI z) a i2 i3) = 2 then (s.1 + 0) else (s.1 + 0)))) else s.1) : Int32), ((if (((mx_i h 117 2) >>> ((nI z) &&& 31)) &&& 1) = 1 then (if (V_59 h (nI z) a i2 i3) = 0 then (if (V_59 h (nI z) a i2 i3) = 1 then (if (V_59 h (nI z) a i2 i3) = 2 then (s.2.1 + 1) else (s.2.1 + 1)) else (if (V_59 h (nI z) a i2 i3) = 2 then (s.2.1 + 0) else (s.2.1 + 0))) else (if (V_59 h (nI z) a i2 i3) = 1 then (if (V_59 h (nI z) a i2 i3) = 2 then (s.2.1 + 1) else (s.2.1 + 1)) else (if (V_59 h (nI z) a i2 i3) = 2 then (s.2.1 + 0) else (s.2.1 + 0)))) else s.2.1) : Int32), ((if (((mx_i h 117 2) >>> ((nI z) &&& 31)) &&& 1) = 1 then (if (V_59 h (nI z) a i2 i3) = 0 then (if (V_59 h (nI z) a i2 i3) = 1 then (if (V_59 h (nI z) a i2 i3) = 2 then (s.2.2 + 1) else (s.2.2 + 0)) else (if (V_59 h (nI z) a i2 i3) = 2 then (s.2.2 + 1) else (s.2.2 + 0))) else (if (V_59 h (nI z) a i2 i3) = 1 then (if (V_59 h (nI z) a i2 i3) = 2 then (s.2.2 + 1) else (s.2.2 + 0)) else (if (V_59 h (nI z) a i2 i3) = 2 then (s.2.2 + 1) else (s.2.2 + 0)))) else s.2.2) : Int32))
theorem lp_64_8 {d : Nat} {h : mxH} {Q : mxO → mxH → Prop} {a : Nat} {i2 : Int32} {i3 : Int32} {s0 : (Int32 × Int32 × Int32)} {n : Nat} (z0 : Nat) (G : mxG h) (hVa : (mxT a).1 = 9) (hB : (10 : Int32) = nI (n - 1)) (hn1 : 1 ≤ n) (hn : n < 2147483648) (hz : z0 ≤ n) (ob : ∀ z, z0 ≤ z → z < n → ((((((mx_i h 117 2) >>> ((nI z) &&& 31)) &&& 1) = 1 → (cB (mx_i h (a + 7) 0) 10 ∧ (((nI z) < (mx_i h (a + 7) 0) → (vp_in (nI z) 10 ∧ True)) ∧ (¬ (nI z) < (mx_i h (a + 7) 0) → True)) ∧ True)) ∧ (¬ (((mx_i h 117 2) >>> ((nI z) &&& 31)) &&& 1) = 1 → True)) ∧ True)) (k : Q (.inl (some (.int (if (fz (F_64_8 h a i2 i3) z0 n s0).1 < (if (fz (F_64_8 h a i2 i3) z0 n s0).2.1 < (fz (F_64_8 h a i2 i3) z0 n s0).2.2 then (fz (F_64_8 h a i2 i3) z0 n s0).2.2 else (fz (F_64_8 h a i2 i3) z0 n s0).2.1) then (if (fz (F_64_8 h a i2 i3) z0 n s0).2.1 < (fz (F_64_8 h a i2 i3) z0 n s0).2.2 then (fz (F_64_8 h a i2 i3) z0 n s0).2.2 else (fz (F_64_8 h a i2 i3) z0 n s0).2.1) else (fz (F_64_8 h a i2 i3) z0 n s0).1)))) h) : H_64_8 (d + 3) h a i2 i3 s0.1 s0.2.1 s0.2.2 (nI z0) Q := by
  have L : ∀ (j z : Nat), z0 ≤ z → z + j = n → H_64_8 (d + 3) h a i2 i3 (fz (F_64_8 h a i2 i3) z0 z s0).1 (fz (F_64_8 h a i2 i3) z0 z s0).2.1 (fz (F_64_8 h a i2 i3) z0 z s0).2.2 (nI z) Q := by
    intro j
    induction j with
    | zero =>
      intro z hz0 hzn
      have hzn : z = n := by omega
      subst hzn
      refine tr_64_8 G hVa ⟨fun c9 => k, fun c9 => absurd (hB.symm ▸ nI_lt (by omega) hn) c9⟩
    | succ j ih =>
      intro z hz0 hzn
      have hih := ih (z + 1) (by omega) (by omega)
      rw [nI_succ, fz_s hz0] at hih
      have hob := ob z hz0 (by omega)
      refine tr_64_8 G hVa ⟨fun c9 => absurd (hB ▸ c9) (nI_nlt (by omega) (by omega)), fun c9 => ?_⟩
      obtain ⟨q0, hob⟩ := hob
      refine ⟨q0, ?_⟩
      intro v2 ev2
      subst ev2
      intro v3 ev3
      subst ev3
      intro v4 ev4
      subst ev4
      exact hih
  have L0 := L (n - z0) z0 (Nat.le_refl _) (by omega)
  simp only [fz_0] at L0
  exact L0
/-! 66: StoneBacks$Stones.copyFrom(LStoneBacks$Stones;)V -/
set_option maxRecDepth 8000 in
theorem tr_66_0 {d : Nat} {h : mxH} {Q : mxO → mxH → Prop} {a : Nat} {c : Nat} (G : mxG h) (hVa : (mxT a).1 = 9) (hVc : (mxT c).1 = 9) (H : (∀ h1, h1 = mx_wi h (a + 7) 0 (mx_i h (c + 7) 0) → (∀ h4, h4 = mx_wrow h1 (a + 8) (va_cpy (mx_i h1 (c + 8)) (mx_i h1 (a + 8)) 0 0 10) → (∀ h7, h7 = mx_wrow h4 (a + 9) (va_cpy (mx_i h4 (c + 9)) (mx_i h4 (a + 9)) 0 0 10) → (∀ h10, h10 = mx_wrow h7 (a + 10) (va_cpy (mx_i h7 (c + 10)) (mx_i h7 (a + 10)) 0 0 10) → (∀ h13, h13 = mx_wrow h10 (a + 11) (va_cpy (mx_i h10 (c + 11)) (mx_i h10 (a + 11)) 0 0 10) → (∀ h16, h16 = mx_wrow h13 (a + 12) (va_cpy (mx_i h13 (c + 12)) (mx_i h13 (a + 12)) 0 0 10) → Q (.inl none) h16))))))) : mx_wp d 66 0 (mx_fr 66 [.ref (a + 7), .ref (c + 7)]) [] h Q := by
  show mx_wp d 66 0 [some (.ref (a + 7)), some (.ref (c + 7))] [] h Q
  refine wp_steps (i' := 4) (ls' := [some (.ref (a + 7)), some (.ref (c + 7))]) (st' := []) (h' := mx_wi h (a + 7) 0 (mx_i h (c + 7) 0)) (P := ((mxT (c + 7)).1 = 7 ∧ mxG h) ∧ ((mxT (a + 7)).1 = 7 ∧ mxG h) ∧ True) 4 rfl rfl ⟨⟨(congrArg Prod.fst (sV_7 hVc)), G⟩, ⟨(congrArg Prod.fst (sV_7 hVa)), G⟩, trivial⟩ ?_
  obtain ⟨h1, e2⟩ : ∃ z9, z9 = mx_wi h (a + 7) 0 (mx_i h (c + 7) 0) := ⟨_, rfl⟩
  rw [← e2]
  have H := H h1 e2
  have G3 : mxG h1 := e2 ▸ mxG_wi G
  refine wp_steps (i' := 12) (ls' := [some (.ref (a + 7)), some (.ref (c + 7))]) (st' := []) (h' := mx_wrow h1 (a + 8) (va_cpy (mx_i h1 (c + 8)) (mx_i h1 (a + 8)) 0 0 10)) (P := ((mxT (c + 7)).1 = 7 ∧ mxG h1) ∧ ((mxT (a + 7)).1 = 7 ∧ mxG h1) ∧ ((((mxT (c + 8)).1 = 50 ∧ (mxT (a + 8)).1 = 50) ∧ mxG h1) ∧ ¬ (0 : Int32) < 0 ∧ ¬ (0 : Int32) < 0 ∧ ¬ (10 : Int32) < 0 ∧ 0 + 10 ≤ (mxT (c + 8)).2 ∧ 0 + 10 ≤ (mxT (a + 8)).2 ∧ (([] : List Value).map mx_cat).sum ≤ 8) ∧ True) 8 rfl rfl ⟨⟨(congrArg Prod.fst (sV_7 hVc)), G3⟩, ⟨(congrArg Prod.fst (sV_7 hVa)), G3⟩, (cC (sV_8 hVc) (sV_8 hVa) G3 rfl), trivial⟩ ?_
  obtain ⟨h4, e5⟩ : ∃ z9, z9 = mx_wrow h1 (a + 8) (va_cpy (mx_i h1 (c + 8)) (mx_i h1 (a + 8)) 0 0 10) := ⟨_, rfl⟩
  rw [← e5]
  have H := H h4 e5
  have G6 : mxG h4 := e5 ▸ mxG_wrow G3
  refine wp_steps (i' := 20) (ls' := [some (.ref (a + 7)), some (.ref (c + 7))]) (st' := []) (h' := mx_wrow h4 (a + 9) (va_cpy (mx_i h4 (c + 9)) (mx_i h4 (a + 9)) 0 0 10)) (P := ((mxT (c + 7)).1 = 7 ∧ mxG h4) ∧ ((mxT (a + 7)).1 = 7 ∧ mxG h4) ∧ ((((mxT (c + 9)).1 = 50 ∧ (mxT (a + 9)).1 = 50) ∧ mxG h4) ∧ ¬ (0 : Int32) < 0 ∧ ¬ (0 : Int32) < 0 ∧ ¬ (10 : Int32) < 0 ∧ 0 + 10 ≤ (mxT (c + 9)).2 ∧ 0 + 10 ≤ (mxT (a + 9)).2 ∧ (([] : List Value).map mx_cat).sum ≤ 8) ∧ True) 8 rfl rfl ⟨⟨(congrArg Prod.fst (sV_7 hVc)), G6⟩, ⟨(congrArg Prod.fst (sV_7 hVa)), G6⟩, (cC (sV_9 hVc) (sV_9 hVa) G6 rfl), trivial⟩ ?_
  obtain ⟨h7, e8⟩ : ∃ z9, z9 = mx_wrow h4 (a + 9) (va_cpy (mx_i h4 (c + 9)) (mx_i h4 (a + 9)) 0 0 10) := ⟨_, rfl⟩
  rw [← e8]
  have H := H h7 e8
  have G9 : mxG h7 := e8 ▸ mxG_wrow G6
  refine wp_steps (i' := 28) (ls' := [some (.ref (a + 7)), some (.ref (c + 7))]) (st' := []) (h' := mx_wrow h7 (a + 10) (va_cpy (mx_i h7 (c + 10)) (mx_i h7 (a + 10)) 0 0 10)) (P := ((mxT (c + 7)).1 = 7 ∧ mxG h7) ∧ ((mxT (a + 7)).1 = 7 ∧ mxG h7) ∧ ((((mxT (c + 10)).1 = 50 ∧ (mxT (a + 10)).1 = 50) ∧ mxG h7) ∧ ¬ (0 : Int32) < 0 ∧ ¬ (0 : Int32) < 0 ∧ ¬ (10 : Int32) < 0 ∧ 0 + 10 ≤ (mxT (c + 10)).2 ∧ 0 + 10 ≤ (mxT (a + 10)).2 ∧ (([] : List Value).map mx_cat).sum ≤ 8) ∧ True) 8 rfl rfl ⟨⟨(congrArg Prod.fst (sV_7 hVc)), G9⟩, ⟨(congrArg Prod.fst (sV_7 hVa)), G9⟩, (cC (sV_10 hVc) (sV_10 hVa) G9 rfl), trivial⟩ ?_
  obtain ⟨h10, e11⟩ : ∃ z9, z9 = mx_wrow h7 (a + 10) (va_cpy (mx_i h7 (c + 10)) (mx_i h7 (a + 10)) 0 0 10) := ⟨_, rfl⟩
  rw [← e11]
  have H := H h10 e11
  have G12 : mxG h10 := e11 ▸ mxG_wrow G9
  refine wp_steps (i' := 36) (ls' := [some (.ref (a + 7)), some (.ref (c + 7))]) (st' := []) (h' := mx_wrow h10 (a + 11) (va_cpy (mx_i h10 (c + 11)) (mx_i h10 (a + 11)) 0 0 10)) (P := ((mxT (c + 7)).1 = 7 ∧ mxG h10) ∧ ((mxT (a + 7)).1 = 7 ∧ mxG h10) ∧ ((((mxT (c + 11)).1 = 50 ∧ (mxT (a + 11)).1 = 50) ∧ mxG h10) ∧ ¬ (0 : Int32) < 0 ∧ ¬ (0 : Int32) < 0 ∧ ¬ (10 : Int32) < 0 ∧ 0 + 10 ≤ (mxT (c + 11)).2 ∧ 0 + 10 ≤ (mxT (a + 11)).2 ∧ (([] : List Value).map mx_cat).sum ≤ 8) ∧ True) 8 rfl rfl ⟨⟨(congrArg Prod.fst (sV_7 hVc)), G12⟩, ⟨(congrArg Prod.fst (sV_7 hVa)), G12⟩, (cC (sV_11 hVc) (sV_11 hVa) G12 rfl), trivial⟩ ?_
  obtain ⟨h13, e14⟩ : ∃ z9, z9 = mx_wrow h10 (a + 11) (va_cpy (mx_i h10 (c + 11)) (mx_i h10 (a + 11)) 0 0 10) := ⟨_, rfl⟩
  rw [← e14]
  have H := H h13 e14
  have G15 : mxG h13 := e14 ▸ mxG_wrow G12
  refine wp_steps (i' := 44) (ls' := [some (.ref (a + 7)), some (.ref (c + 7))]) (st' := []) (h' := mx_wrow h13 (a + 12) (va_cpy (mx_i h13 (c + 12)) (mx_i h13 (a + 12)) 0 0 10)) (P := ((mxT (c + 7)).1 = 7 ∧ mxG h13) ∧ ((mxT (a + 7)).1 = 7 ∧ mxG h13) ∧ ((((mxT (c + 12)).1 = 50 ∧ (mxT (a + 12)).1 = 50) ∧ mxG h13) ∧ ¬ (0 : Int32) < 0 ∧ ¬ (0 : Int32) < 0 ∧ ¬ (10 : Int32) < 0 ∧ 0 + 10 ≤ (mxT (c + 12)).2 ∧ 0 + 10 ≤ (mxT (a + 12)).2 ∧ (([] : List Value).map mx_cat).sum ≤ 8) ∧ True) 8 rfl rfl ⟨⟨(congrArg Prod.fst (sV_7 hVc)), G15⟩, ⟨(congrArg Prod.fst (sV_7 hVa)), G15⟩, (cC (sV_12 hVc) (sV_12 hVa) G15 rfl), trivial⟩ ?_
  obtain ⟨h16, e17⟩ : ∃ z9, z9 = mx_wrow h13 (a + 12) (va_cpy (mx_i h13 (c + 12)) (mx_i h13 (a + 12)) 0 0 10) := ⟨_, rfl⟩
  rw [← e17]
  have H := H h16 e17
  have G18 : mxG h16 := e17 ▸ mxG_wrow G15
  exact wp_end (o := .inl none) (h' := h16) (P := True) rfl rfl trivial H
/-! 67: StoneBacks$Stones.isFull()Z -/
set_option maxRecDepth 8000 in
theorem tr_67_0 {d : Nat} {h : mxH} {Q : mxO → mxH → Prop} {a : Nat} (G : mxG h) (hVa : (mxT a).1 = 9) (H : (∀ (v1 : Int32), v1 = ((if (mx_i h (a + 7) 0) < 10 then 0 else 1) : Int32) → Q (.inl (some (.int v1))) h)) : mx_wp d 67 0 (mx_fr 67 [.ref (a + 7)]) [] h Q := by
  show mx_wp d 67 0 [some (.ref (a + 7))] [] h Q
  refine wp_steps (i' := 3) (ls' := [some (.ref (a + 7))]) (st' := [.int 10, .int (mx_i h (a + 7) 0)]) (h' := h) (P := ((mxT (a + 7)).1 = 7 ∧ mxG h) ∧ True) 3 rfl rfl ⟨⟨(congrArg Prod.fst (sV_7 hVa)), G⟩, trivial⟩ ?_
  have J : ∀ (v1 : Int32) (ev1 : v1 = ((if (mx_i h (a + 7) 0) < 10 then 0 else 1) : Int32)), mx_wp d 67 7 [some (.ref (a + 7))] [.int v1] h Q := by
    intro v1 ev1
    have H := H v1 ev1
    exact wp_end (o := .inl (some (.int v1))) (h' := h) (P := (v1 = 0 ∨ v1 = 1)) rfl rfl (b01 ev1 (by repeat' (first | exact Or.inl rfl | exact Or.inr rfl | split))) H
  refine wp_br (P := True) (c := (mx_i h (a + 7) 0) < 10) (t := 6) (st' := []) rfl rfl trivial (fun c2 => ?_) (fun c2 => ?_)
  · skip
    refine wp_steps (i' := 7) (ls' := [some (.ref (a + 7))]) (st' := [.int 0]) (h' := h) (P := True) 1 rfl rfl trivial ?_
    exact J _ (by rw [if_pos c2])
  · skip
    refine wp_steps (i' := 5) (ls' := [some (.ref (a + 7))]) (st' := [.int 1]) (h' := h) (P := True) 1 rfl rfl trivial ?_
    refine wp_J (j := 7) (st' := [.int 1]) rfl rfl ?_
    exact J _ (by rw [if_neg c2])
def V_67 (h : mxH) (a : Nat) : Int32 := ((if (mx_i h (a + 7) 0) < 10 then 0 else 1) : Int32)
theorem sp_67 {d : Nat} {h : mxH} {Q : mxO → mxH → Prop} {a : Nat} (G : mxG h) (hVa : (mxT a).1 = 9) (k : Q (.inl (some (.int (V_67 h a)))) h) : mx_wp d 67 0 (mx_fr 67 [.ref (a + 7)]) [] h Q := by
  unfold V_67 at k
  refine tr_67_0 G hVa ?_
  intro v1 ev1
  subst ev1
  exact k
/-! 68: StoneBacks$Stones.addNew(IIII)I -/
set_option maxRecDepth 8000 in
theorem tr_68_0 {d : Nat} {h : mxH} {Q : mxO → mxH → Prop} {a : Nat} {i1 : Int32} {i2 : Int32} {i3 : Int32} {i4 : Int32} (G : mxG h) (hVa : (mxT a).1 = 9) (H : (((V_67 h a) = 0 → (vp_in (mx_i h (a + 7) 0) 10 ∧ (∀ h3, h3 = mx_wi h (a + 10) (mx_i h (a + 7) 0).toNatClampNeg i1 → (vp_in (mx_i h3 (a + 7) 0) 10 ∧ (∀ h7, h7 = mx_wi h3 (a + 8) (mx_i h3 (a + 7) 0).toNatClampNeg i2 → (vp_in (mx_i h7 (a + 7) 0) 10 ∧ (∀ h11, h11 = mx_wi h7 (a + 9) (mx_i h7 (a + 7) 0).toNatClampNeg i3 → (vp_in (mx_i h11 (a + 7) 0) 10 ∧ (∀ h15, h15 = mx_wi h11 (a + 11) (mx_i h11 (a + 7) 0).toNatClampNeg 0 → (vp_in (mx_i h15 (a + 7) 0) 10 ∧ (∀ h19, h19 = mx_wi h15 (a + 12) (mx_i h15 (a + 7) 0).toNatClampNeg i4 → (∀ h22, h22 = mx_wi h19 (a + 7) 0 ((mx_i h19 (a + 7) 0) + 1) → Q (.inl (some (.int ((mx_i h22 (a + 7) 0) - 1)))) h22)))))))))))) ∧ (¬ (V_67 h a) = 0 → Q (.inl (some (.int (-1)))) h))) : mx_wp (d + 1) 68 0 (mx_fr 68 [.ref (a + 7), .int i1, .int i2, .int i3, .int i4]) [] h Q := by
  show mx_wp (d + 1) 68 0 [some (.ref (a + 7)), some (.int i1), some (.int i2), some (.int i3), some (.int i4)] [] h Q
  refine wp_steps (i' := 1) (ls' := [some (.ref (a + 7)), some (.int i1), some (.int i2), some (.int i3), some (.int i4)]) (st' := [.ref (a + 7)]) (h' := h) (P := True) 1 rfl rfl trivial ?_
  refine wp_call (b := false) (y' := 67) (as := [.ref (a + 7)]) (rest := []) (P := ((mxT (a + 7)).1 = mxRc 67 ∧ mxG h)) rfl (by with_unfolding_all rfl) ⟨(congrArg Prod.fst (sV_7 hVa)), G⟩ (Nat.le_of_ble_eq_true rfl) (sp_67 G hVa ?_)
  show mx_wp (d + 1) 68 2 [some (.ref (a + 7)), some (.int i1), some (.int i2), some (.int i3), some (.int i4)] [.int (V_67 h a)] h Q
  refine wp_br (P := True) (c := (V_67 h a) = 0) (t := 5) (st' := []) rfl rfl trivial (fun c1 => ?_) (fun c1 => ?_)
  · skip
    have H := H.1 c1
    obtain ⟨o2, H⟩ := H
    refine wp_steps (i' := 11) (ls' := [some (.ref (a + 7)), some (.int i1), some (.int i2), some (.int i3), some (.int i4)]) (st' := []) (h' := mx_wi h (a + 10) (mx_i h (a + 7) 0).toNatClampNeg i1) (P := ((mxT (a + 7)).1 = 7 ∧ mxG h) ∧ ((mxT (a + 7)).1 = 7 ∧ mxG h) ∧ (((mxT (a + 10)).1 = 50 ∧ mxG h) ∧ vp_in (mx_i h (a + 7) 0) (mxT (a + 10)).2) ∧ True) 6 rfl rfl ⟨⟨(congrArg Prod.fst (sV_7 hVa)), G⟩, ⟨(congrArg Prod.fst (sV_7 hVa)), G⟩, (cA (sV_10 hVa) G o2), trivial⟩ ?_
    obtain ⟨h3, e4⟩ : ∃ z9, z9 = mx_wi h (a + 10) (mx_i h (a + 7) 0).toNatClampNeg i1 := ⟨_, rfl⟩
    rw [← e4]
    have H := H h3 e4
    have G5 : mxG h3 := e4 ▸ mxG_wi G
    obtain ⟨o6, H⟩ := H
    refine wp_steps (i' := 17) (ls' := [some (.ref (a + 7)), some (.int i1), some (.int i2), some (.int i3), some (.int i4)]) (st' := []) (h' := mx_wi h3 (a + 8) (mx_i h3 (a + 7) 0).toNatClampNeg i2) (P := ((mxT (a + 7)).1 = 7 ∧ mxG h3) ∧ ((mxT (a + 7)).1 = 7 ∧ mxG h3) ∧ (((mxT (a + 8)).1 = 50 ∧ mxG h3) ∧ vp_in (mx_i h3 (a + 7) 0) (mxT (a + 8)).2) ∧ True) 6 rfl rfl ⟨⟨(congrArg Prod.fst (sV_7 hVa)), G5⟩, ⟨(congrArg Prod.fst (sV_7 hVa)), G5⟩, (cA (sV_8 hVa) G5 o6), trivial⟩ ?_
    obtain ⟨h7, e8⟩ : ∃ z9, z9 = mx_wi h3 (a + 8) (mx_i h3 (a + 7) 0).toNatClampNeg i2 := ⟨_, rfl⟩
    rw [← e8]
    have H := H h7 e8
    have G9 : mxG h7 := e8 ▸ mxG_wi G5
    obtain ⟨o10, H⟩ := H
    refine wp_steps (i' := 23) (ls' := [some (.ref (a + 7)), some (.int i1), some (.int i2), some (.int i3), some (.int i4)]) (st' := []) (h' := mx_wi h7 (a + 9) (mx_i h7 (a + 7) 0).toNatClampNeg i3) (P := ((mxT (a + 7)).1 = 7 ∧ mxG h7) ∧ ((mxT (a + 7)).1 = 7 ∧ mxG h7) ∧ (((mxT (a + 9)).1 = 50 ∧ mxG h7) ∧ vp_in (mx_i h7 (a + 7) 0) (mxT (a + 9)).2) ∧ True) 6 rfl rfl ⟨⟨(congrArg Prod.fst (sV_7 hVa)), G9⟩, ⟨(congrArg Prod.fst (sV_7 hVa)), G9⟩, (cA (sV_9 hVa) G9 o10), trivial⟩ ?_
    obtain ⟨h11, e12⟩ : ∃ z9, z9 = mx_wi h7 (a + 9) (mx_i h7 (a + 7) 0).toNatClampNeg i3 := ⟨_, rfl⟩
    rw [← e12]
    have H := H h11 e12
    have G13 : mxG h11 := e12 ▸ mxG_wi G9
    obtain ⟨o14, H⟩ := H
    refine wp_steps (i' := 29) (ls' := [some (.ref (a + 7)), some (.int i1), some (.int i2), some (.int i3), some (.int i4)]) (st' := []) (h' := mx_wi h11 (a + 11) (mx_i h11 (a + 7) 0).toNatClampNeg 0) (P := ((mxT (a + 7)).1 = 7 ∧ mxG h11) ∧ ((mxT (a + 7)).1 = 7 ∧ mxG h11) ∧ (((mxT (a + 11)).1 = 50 ∧ mxG h11) ∧ vp_in (mx_i h11 (a + 7) 0) (mxT (a + 11)).2) ∧ True) 6 rfl rfl ⟨⟨(congrArg Prod.fst (sV_7 hVa)), G13⟩, ⟨(congrArg Prod.fst (sV_7 hVa)), G13⟩, (cA (sV_11 hVa) G13 o14), trivial⟩ ?_
    obtain ⟨h15, e16⟩ : ∃ z9, z9 = mx_wi h11 (a + 11) (mx_i h11 (a + 7) 0).toNatClampNeg 0 := ⟨_, rfl⟩
    rw [← e16]
    have H := H h15 e16
    have G17 : mxG h15 := e16 ▸ mxG_wi G13
    obtain ⟨o18, H⟩ := H
    refine wp_steps (i' := 35) (ls' := [some (.ref (a + 7)), some (.int i1), some (.int i2), some (.int i3), some (.int i4)]) (st' := []) (h' := mx_wi h15 (a + 12) (mx_i h15 (a + 7) 0).toNatClampNeg i4) (P := ((mxT (a + 7)).1 = 7 ∧ mxG h15) ∧ ((mxT (a + 7)).1 = 7 ∧ mxG h15) ∧ (((mxT (a + 12)).1 = 50 ∧ mxG h15) ∧ vp_in (mx_i h15 (a + 7) 0) (mxT (a + 12)).2) ∧ True) 6 rfl rfl ⟨⟨(congrArg Prod.fst (sV_7 hVa)), G17⟩, ⟨(congrArg Prod.fst (sV_7 hVa)), G17⟩, (cA (sV_12 hVa) G17 o18), trivial⟩ ?_
    obtain ⟨h19, e20⟩ : ∃ z9, z9 = mx_wi h15 (a + 12) (mx_i h15 (a + 7) 0).toNatClampNeg i4 := ⟨_, rfl⟩
    rw [← e20]
    have H := H h19 e20
    have G21 : mxG h19 := e20 ▸ mxG_wi G17
    refine wp_steps (i' := 41) (ls' := [some (.ref (a + 7)), some (.int i1), some (.int i2), some (.int i3), some (.int i4)]) (st' := []) (h' := mx_wi h19 (a + 7) 0 ((mx_i h19 (a + 7) 0) + 1)) (P := ((mxT (a + 7)).1 = 7 ∧ mxG h19) ∧ ((mxT (a + 7)).1 = 7 ∧ mxG h19) ∧ True) 6 rfl rfl ⟨⟨(congrArg Prod.fst (sV_7 hVa)), G21⟩, ⟨(congrArg Prod.fst (sV_7 hVa)), G21⟩, trivial⟩ ?_
    obtain ⟨h22, e23⟩ : ∃ z9, z9 = mx_wi h19 (a + 7) 0 ((mx_i h19 (a + 7) 0) + 1) := ⟨_, rfl⟩
    rw [← e23]
    have H := H h22 e23
    have G24 : mxG h22 := e23 ▸ mxG_wi G21
    refine wp_steps (i' := 45) (ls' := [some (.ref (a + 7)), some (.int i1), some (.int i2), some (.int i3), some (.int i4)]) (st' := [.int ((mx_i h22 (a + 7) 0) - 1)]) (h' := h22) (P := ((mxT (a + 7)).1 = 7 ∧ mxG h22) ∧ True) 4 rfl rfl ⟨⟨(congrArg Prod.fst (sV_7 hVa)), G24⟩, trivial⟩ ?_
    exact wp_end (o := .inl (some (.int ((mx_i h22 (a + 7) 0) - 1)))) (h' := h22) (P := True) rfl rfl trivial H
  · skip
    have H := H.2 c1
    refine wp_steps (i' := 4) (ls' := [some (.ref (a + 7)), some (.int i1), some (.int i2), some (.int i3), some (.int i4)]) (st' := [.int (-1)]) (h' := h) (P := True) 1 rfl rfl trivial ?_
    exact wp_end (o := .inl (some (.int (-1)))) (h' := h) (P := True) rfl rfl trivial H
def V_68 (h : mxH) (a : Nat) (i1 : Int32) (i2 : Int32) (i3 : Int32) (i4 : Int32) : Int32 := (if (V_67 h a) = 0 then ((mx_i (mx_wi (mx_wi (mx_wi (mx_wi (mx_wi (mx_wi h (a + 10) (mx_i h (a + 7) 0).toNatClampNeg i1) (a + 8) (mx_i (mx_wi h (a + 10) (mx_i h (a + 7) 0).toNatClampNeg i1) (a + 7) 0).toNatClampNeg i2) (a + 9) (mx_i (mx_wi (mx_wi h (a + 10) (mx_i h (a + 7) 0).toNatClampNeg i1) (a + 8) (mx_i (mx_wi h (a + 10) (mx_i h (a + 7) 0).toNatClampNeg i1) (a + 7) 0).toNatClampNeg i2) (a + 7) 0).toNatClampNeg i3) (a + 11) (mx_i (mx_wi (mx_wi (mx_wi h (a + 10) (mx_i h (a + 7) 0).toNatClampNeg i1) (a + 8) (mx_i (mx_wi h (a + 10) (mx_i h (a + 7) 0).toNatClampNeg i1) (a + 7) 0).toNatClampNeg i2) (a + 9) (mx_i (mx_wi (mx_wi h (a + 10) (mx_i h (a + 7) 0).toNatClampNeg i1) (a + 8) (mx_i (mx_wi h (a + 10) (mx_i h (a + 7) 0).toNatClampNeg i1) (a + 7) 0).toNatClampNeg i2) (a + 7) 0).toNatClampNeg i3) (a + 7) 0).toNatClampNeg 0) (a + 12) (mx_i (mx_wi (mx_wi (mx_wi (mx_wi h (a + 10) (mx_i h (a + 7) 0).toNatClampNeg i1) (a + 8) (mx_i (mx_wi h (a + 10) (mx_i h (a + 7) 0).toNatClampNeg i1) (a + 7) 0).toNatClampNeg i2) (a + 9) (mx_i (mx_wi (mx_wi h (a + 10) (mx_i h (a + 7) 0).toNatClampNeg i1) (a + 8) (mx_i (mx_wi h (a + 10) (mx_i h (a + 7) 0).toNatClampNeg i1) (a + 7) 0).toNatClampNeg i2) (a + 7) 0).toNatClampNeg i3) (a + 11) (mx_i (mx_wi (mx_wi (mx_wi h (a + 10) (mx_i h (a + 7) 0).toNatClampNeg i1) (a + 8) (mx_i (mx_wi h (a + 10) (mx_i h (a + 7) 0).toNatClampNeg i1) (a + 7) 0).toNatClampNeg i2) (a + 9) (mx_i (mx_wi (mx_wi h (a + 10) (mx_i h (a + 7) 0).toNatClampNeg i1) (a + 8) (mx_i (mx_wi h (a + 10) (mx_i h (a + 7) 0).toNatClampNeg i1) (a + 7) 0).toNatClampNeg i2) (a + 7) 0).toNatClampNeg i3) (a + 7) 0).toNatClampNeg 0) (a + 7) 0).toNatClampNeg i4) (a + 7) 0 ((mx_i (mx_wi (mx_wi (mx_wi (mx_wi (mx_wi h (a + 10) (mx_i h (a + 7) 0).toNatClampNeg i1) (a + 8) (mx_i (mx_wi h (a + 10) (mx_i h (a + 7) 0).toNatClampNeg i1) (a + 7) 0).toNatClampNeg i2) (a + 9) (mx_i (mx_wi (mx_wi h (a + 10) (mx_i h (a + 7) 0).toNatClampNeg i1) (a + 8) (mx_i (mx_wi h (a + 10) (mx_i h (a + 7) 0).toNatClampNeg i1) (a + 7) 0).toNatClampNeg i2) (a + 7) 0).toNatClampNeg i3) (a + 11) (mx_i (mx_wi (mx_wi (mx_wi h (a + 10) (mx_i h (a + 7) 0).toNatClampNeg i1) (a + 8) (mx_i (mx_wi h (a + 10) (mx_i h (a + 7) 0).toNatClampNeg i1) (a + 7) 0).toNatClampNeg i2) (a + 9) (mx_i (mx_wi (mx_wi h (a + 10) (mx_i h (a + 7) 0).toNatClampNeg i1) (a + 8) (mx_i (mx_wi h (a + 10) (mx_i h (a + 7) 0).toNatClampNeg i1) (a + 7) 0).toNatClampNeg i2) (a + 7) 0).toNatClampNeg i3) (a + 7) 0).toNatClampNeg 0) (a + 12) (mx_i (mx_wi (mx_wi (mx_wi (mx_wi h (a + 10) (mx_i h (a + 7) 0).toNatClampNeg i1) (a + 8) (mx_i (mx_wi h (a + 10) (mx_i h (a + 7) 0).toNatClampNeg i1) (a + 7) 0).toNatClampNeg i2) (a + 9) (mx_i (mx_wi (mx_wi h (a + 10) (mx_i h (a + 7) 0).toNatClampNeg i1) (a + 8) (mx_i (mx_wi h (a + 10) (mx_i h (a + 7) 0).toNatClampNeg i1) (a + 7) 0).toNatClampNeg i2) (a + 7) 0).toNatClampNeg i3) (a + 11) (mx_i (mx_wi (mx_wi (mx_wi h (a + 10) (mx_i h (a + 7) 0).toNatClampNeg i1) (a + 8) (mx_i (mx_wi h (a + 10) (mx_i h (a + 7) 0).toNatClampNeg i1) (a + 7) 0).toNatClampNeg i2) (a + 9) (mx_i (mx_wi (mx_wi h (a + 10) (mx_i h (a + 7) 0).toNatClampNeg i1) (a + 8) (mx_i (mx_wi h (a + 10) (mx_i h (a + 7) 0).toNatClampNeg i1) (a + 7) 0).toNatClampNeg i2) (a + 7) 0).toNatClampNeg i3) (a + 7) 0).toNatClampNeg 0) (a + 7) 0).toNatClampNeg i4) (a + 7) 0) + 1)) (a + 7) 0) - 1) else (-1))
def W_68 (h : mxH) (a : Nat) (i1 : Int32) (i2 : Int32) (i3 : Int32) (i4 : Int32) : mxH := (if (V_67 h a) = 0 then (mx_wi (mx_wi (mx_wi (mx_wi (mx_wi (mx_wi h (a + 10) (mx_i h (a + 7) 0).toNatClampNeg i1) (a + 8) (mx_i (mx_wi h (a + 10) (mx_i h (a + 7) 0).toNatClampNeg i1) (a + 7) 0).toNatClampNeg i2) (a + 9) (mx_i (mx_wi (mx_wi h (a + 10) (mx_i h (a + 7) 0).toNatClampNeg i1) (a + 8) (mx_i (mx_wi h (a + 10) (mx_i h (a + 7) 0).toNatClampNeg i1) (a + 7) 0).toNatClampNeg i2) (a + 7) 0).toNatClampNeg i3) (a + 11) (mx_i (mx_wi (mx_wi (mx_wi h (a + 10) (mx_i h (a + 7) 0).toNatClampNeg i1) (a + 8) (mx_i (mx_wi h (a + 10) (mx_i h (a + 7) 0).toNatClampNeg i1) (a + 7) 0).toNatClampNeg i2) (a + 9) (mx_i (mx_wi (mx_wi h (a + 10) (mx_i h (a + 7) 0).toNatClampNeg i1) (a + 8) (mx_i (mx_wi h (a + 10) (mx_i h (a + 7) 0).toNatClampNeg i1) (a + 7) 0).toNatClampNeg i2) (a + 7) 0).toNatClampNeg i3) (a + 7) 0).toNatClampNeg 0) (a + 12) (mx_i (mx_wi (mx_wi (mx_wi (mx_wi h (a + 10) (mx_i h (a + 7) 0).toNatClampNeg i1) (a + 8) (mx_i (mx_wi h (a + 10) (mx_i h (a + 7) 0).toNatClampNeg i1) (a + 7) 0).toNatClampNeg i2) (a + 9) (mx_i (mx_wi (mx_wi h (a + 10) (mx_i h (a + 7) 0).toNatClampNeg i1) (a + 8) (mx_i (mx_wi h (a + 10) (mx_i h (a + 7) 0).toNatClampNeg i1) (a + 7) 0).toNatClampNeg i2) (a + 7) 0).toNatClampNeg i3) (a + 11) (mx_i (mx_wi (mx_wi (mx_wi h (a + 10) (mx_i h (a + 7) 0).toNatClampNeg i1) (a + 8) (mx_i (mx_wi h (a + 10) (mx_i h (a + 7) 0).toNatClampNeg i1) (a + 7) 0).toNatClampNeg i2) (a + 9) (mx_i (mx_wi (mx_wi h (a + 10) (mx_i h (a + 7) 0).toNatClampNeg i1) (a + 8) (mx_i (mx_wi h (a + 10) (mx_i h (a + 7) 0).toNatClampNeg i1) (a + 7) 0).toNatClampNeg i2) (a + 7) 0).toNatClampNeg i3) (a + 7) 0).toNatClampNeg 0) (a + 7) 0).toNatClampNeg i4) (a + 7) 0 ((mx_i (mx_wi (mx_wi (mx_wi (mx_wi (mx_wi h (a + 10) (mx_i h (a + 7) 0).toNatClampNeg i1) (a + 8) (mx_i (mx_wi h (a + 10) (mx_i h (a + 7) 0).toNatClampNeg i1) (a + 7) 0).toNatClampNeg i2) (a + 9) (mx_i (mx_wi (mx_wi h (a + 10) (mx_i h (a + 7) 0).toNatClampNeg i1) (a + 8) (mx_i (mx_wi h (a + 10) (mx_i h (a + 7) 0).toNatClampNeg i1) (a + 7) 0).toNatClampNeg i2) (a + 7) 0).toNatClampNeg i3) (a + 11) (mx_i (mx_wi (mx_wi (mx_wi h (a + 10) (mx_i h (a + 7) 0).toNatClampNeg i1) (a + 8) (mx_i (mx_wi h (a + 10) (mx_i h (a + 7) 0).toNatClampNeg i1) (a + 7) 0).toNatClampNeg i2) (a + 9) (mx_i (mx_wi (mx_wi h (a + 10) (mx_i h (a + 7) 0).toNatClampNeg i1) (a + 8) (mx_i (mx_wi h (a + 10) (mx_i h (a + 7) 0).toNatClampNeg i1) (a + 7) 0).toNatClampNeg i2) (a + 7) 0).toNatClampNeg i3) (a + 7) 0).toNatClampNeg 0) (a + 12) (mx_i (mx_wi (mx_wi (mx_wi (mx_wi h (a + 10) (mx_i h (a + 7) 0).toNatClampNeg i1) (a + 8) (mx_i (mx_wi h (a + 10) (mx_i h (a + 7) 0).toNatClampNeg i1) (a + 7) 0).toNatClampNeg i2) (a + 9) (mx_i (mx_wi (mx_wi h (a + 10) (mx_i h (a + 7) 0).toNatClampNeg i1) (a + 8) (mx_i (mx_wi h (a + 10) (mx_i h (a + 7) 0).toNatClampNeg i1) (a + 7) 0).toNatClampNeg i2) (a + 7) 0).toNatClampNeg i3) (a + 11) (mx_i (mx_wi (mx_wi (mx_wi h (a + 10) (mx_i h (a + 7) 0).toNatClampNeg i1) (a + 8) (mx_i (mx_wi h (a + 10) (mx_i h (a + 7) 0).toNatClampNeg i1) (a + 7) 0).toNatClampNeg i2) (a + 9) (mx_i (mx_wi (mx_wi h (a + 10) (mx_i h (a + 7) 0).toNatClampNeg i1) (a + 8) (mx_i (mx_wi h (a + 10) (mx_i h (a + 7) 0).toNatClampNeg i1) (a + 7) 0).toNatClampNeg i2) (a + 7) 0).toNatClampNeg i3) (a + 7) 0).toNatClampNeg 0) (a + 7) 0).toNatClampNeg i4) (a + 7) 0) + 1)) else h)
theorem KW_68 {h : mxH} {a : Nat} {i1 : Int32} {i2 : Int32} {i3 : Int32} {i4 : Int32} : mxK h (W_68 h a i1 i2 i3 i4) := by
  unfold W_68
  repeat' (first | with_reducible exact mxK_rfl | with_reducible exact mxK_wi | with_reducible exact mxK_wrow | with_reducible refine mxK_ite ?_ ?_ | with_reducible refine mxK_tr ?_ mxK_wi | with_reducible refine mxK_tr ?_ mxK_wrow)
theorem sp_68 {d : Nat} {h : mxH} {Q : mxO → mxH → Prop} {a : Nat} {i1 : Int32} {i2 : Int32} {i3 : Int32} {i4 : Int32} (G : mxG h) (hVa : (mxT a).1 = 9) (x0 : (((V_67 h a) = 0 → (vp_in (mx_i h (a + 7) 0) 10 ∧ (vp_in (mx_i (mx_wi h (a + 10) (mx_i h (a + 7) 0).toNatClampNeg i1) (a + 7) 0) 10 ∧ (vp_in (mx_i (mx_wi (mx_wi h (a + 10) (mx_i h (a + 7) 0).toNatClampNeg i1) (a + 8) (mx_i (mx_wi h (a + 10) (mx_i h (a + 7) 0).toNatClampNeg i1) (a + 7) 0).toNatClampNeg i2) (a + 7) 0) 10 ∧ (vp_in (mx_i (mx_wi (mx_wi (mx_wi h (a + 10) (mx_i h (a + 7) 0).toNatClampNeg i1) (a + 8) (mx_i (mx_wi h (a + 10) (mx_i h (a + 7) 0).toNatClampNeg i1) (a + 7) 0).toNatClampNeg i2) (a + 9) (mx_i (mx_wi (mx_wi h (a + 10) (mx_i h (a + 7) 0).toNatClampNeg i1) (a + 8) (mx_i (mx_wi h (a + 10) (mx_i h (a + 7) 0).toNatClampNeg i1) (a + 7) 0).toNatClampNeg i2) (a + 7) 0).toNatClampNeg i3) (a + 7) 0) 10 ∧ (vp_in (mx_i (mx_wi (mx_wi (mx_wi (mx_wi h (a + 10) (mx_i h (a + 7) 0).toNatClampNeg i1) (a + 8) (mx_i (mx_wi h (a + 10) (mx_i h (a + 7) 0).toNatClampNeg i1) (a + 7) 0).toNatClampNeg i2) (a + 9) (mx_i (mx_wi (mx_wi h (a + 10) (mx_i h (a + 7) 0).toNatClampNeg i1) (a + 8) (mx_i (mx_wi h (a + 10) (mx_i h (a + 7) 0).toNatClampNeg i1) (a + 7) 0).toNatClampNeg i2) (a + 7) 0).toNatClampNeg i3) (a + 11) (mx_i (mx_wi (mx_wi (mx_wi h (a + 10) (mx_i h (a + 7) 0).toNatClampNeg i1) (a + 8) (mx_i (mx_wi h (a + 10) (mx_i h (a + 7) 0).toNatClampNeg i1) (a + 7) 0).toNatClampNeg i2) (a + 9) (mx_i (mx_wi (mx_wi h (a + 10) (mx_i h (a + 7) 0).toNatClampNeg i1) (a + 8) (mx_i (mx_wi h (a + 10) (mx_i h (a + 7) 0).toNatClampNeg i1) (a + 7) 0).toNatClampNeg i2) (a + 7) 0).toNatClampNeg i3) (a + 7) 0).toNatClampNeg 0) (a + 7) 0) 10 ∧ True)))))) ∧ (¬ (V_67 h a) = 0 → True))) (k : Q (.inl (some (.int (V_68 h a i1 i2 i3 i4)))) (W_68 h a i1 i2 i3 i4)) : mx_wp (d + 1) 68 0 (mx_fr 68 [.ref (a + 7), .int i1, .int i2, .int i3, .int i4]) [] h Q := by
  unfold V_68 W_68 at k
  have hob : (((V_67 h a) = 0 → (vp_in (mx_i h (a + 7) 0) 10 ∧ (vp_in (mx_i (mx_wi h (a + 10) (mx_i h (a + 7) 0).toNatClampNeg i1) (a + 7) 0) 10 ∧ (vp_in (mx_i (mx_wi (mx_wi h (a + 10) (mx_i h (a + 7) 0).toNatClampNeg i1) (a + 8) (mx_i (mx_wi h (a + 10) (mx_i h (a + 7) 0).toNatClampNeg i1) (a + 7) 0).toNatClampNeg i2) (a + 7) 0) 10 ∧ (vp_in (mx_i (mx_wi (mx_wi (mx_wi h (a + 10) (mx_i h (a + 7) 0).toNatClampNeg i1) (a + 8) (mx_i (mx_wi h (a + 10) (mx_i h (a + 7) 0).toNatClampNeg i1) (a + 7) 0).toNatClampNeg i2) (a + 9) (mx_i (mx_wi (mx_wi h (a + 10) (mx_i h (a + 7) 0).toNatClampNeg i1) (a + 8) (mx_i (mx_wi h (a + 10) (mx_i h (a + 7) 0).toNatClampNeg i1) (a + 7) 0).toNatClampNeg i2) (a + 7) 0).toNatClampNeg i3) (a + 7) 0) 10 ∧ (vp_in (mx_i (mx_wi (mx_wi (mx_wi (mx_wi h (a + 10) (mx_i h (a + 7) 0).toNatClampNeg i1) (a + 8) (mx_i (mx_wi h (a + 10) (mx_i h (a + 7) 0).toNatClampNeg i1) (a + 7) 0).toNatClampNeg i2) (a + 9) (mx_i (mx_wi (mx_wi h (a + 10) (mx_i h (a + 7) 0).toNatClampNeg i1) (a + 8) (mx_i (mx_wi h (a + 10) (mx_i h (a + 7) 0).toNatClampNeg i1) (a + 7) 0).toNatClampNeg i2) (a + 7) 0).toNatClampNeg i3) (a + 11) (mx_i (mx_wi (mx_wi (mx_wi h (a + 10) (mx_i h (a + 7) 0).toNatClampNeg i1) (a + 8) (mx_i (mx_wi h (a + 10) (mx_i h (a + 7) 0).toNatClampNeg i1) (a + 7) 0).toNatClampNeg i2) (a + 9) (mx_i (mx_wi (mx_wi h (a + 10) (mx_i h (a + 7) 0).toNatClampNeg i1) (a + 8) (mx_i (mx_wi h (a + 10) (mx_i h (a + 7) 0).toNatClampNeg i1) (a + 7) 0).toNatClampNeg i2) (a + 7) 0).toNatClampNeg i3) (a + 7) 0).toNatClampNeg 0) (a + 7) 0) 10 ∧ True)))))) ∧ (¬ (V_67 h a) = 0 → True)) := x0
  refine tr_68_0 G hVa ?_
  refine ⟨fun c9 => ?_, fun c9 => ?_⟩
  · try simp only [if_pos c9] at k
    have hob := hob.1 c9
    obtain ⟨q0, hob⟩ := hob
    refine ⟨q0, ?_⟩
    intro h3 eh3
    subst eh3
    obtain ⟨q0, hob⟩ := hob
    refine ⟨q0, ?_⟩
    intro h7 eh7
    subst eh7
    obtain ⟨q0, hob⟩ := hob
    refine ⟨q0, ?_⟩
    intro h11 eh11
    subst eh11
    obtain ⟨q0, hob⟩ := hob
    refine ⟨q0, ?_⟩
    intro h15 eh15
    subst eh15
    obtain ⟨q0, hob⟩ := hob
    refine ⟨q0, ?_⟩
    intro h19 eh19
    subst eh19
    intro h22 eh22
    subst eh22
    exact k
  · try simp only [if_neg c9] at k
    have hob := hob.2 c9
    exact k
/-! 69: StoneBacks$Stones.breakInTwo(I)I -/
set_option maxRecDepth 8000 in
theorem tr_69_0 {d : Nat} {h : mxH} {Q : mxO → mxH → Prop} {a : Nat} {i1 : Int32} (G : mxG h) (hVa : (mxT a).1 = 9) (H : (vp_in i1 10 ∧ ((((V_67 h a) = 0 → (vp_in (mx_i h (a + 7) 0) 10 ∧ (vp_in (mx_i (mx_wi h (a + 10) (mx_i h (a + 7) 0).toNatClampNeg ((mx_i h (a + 10) i1.toNatClampNeg) / 2)) (a + 7) 0) 10 ∧ (vp_in (mx_i (mx_wi (mx_wi h (a + 10) (mx_i h (a + 7) 0).toNatClampNeg ((mx_i h (a + 10) i1.toNatClampNeg) / 2)) (a + 8) (mx_i (mx_wi h (a + 10) (mx_i h (a + 7) 0).toNatClampNeg ((mx_i h (a + 10) i1.toNatClampNeg) / 2)) (a + 7) 0).toNatClampNeg (mx_i h (a + 8) i1.toNatClampNeg)) (a + 7) 0) 10 ∧ (vp_in (mx_i (mx_wi (mx_wi (mx_wi h (a + 10) (mx_i h (a + 7) 0).toNatClampNeg ((mx_i h (a + 10) i1.toNatClampNeg) / 2)) (a + 8) (mx_i (mx_wi h (a + 10) (mx_i h (a + 7) 0).toNatClampNeg ((mx_i h (a + 10) i1.toNatClampNeg) / 2)) (a + 7) 0).toNatClampNeg (mx_i h (a + 8) i1.toNatClampNeg)) (a + 9) (mx_i (mx_wi (mx_wi h (a + 10) (mx_i h (a + 7) 0).toNatClampNeg ((mx_i h (a + 10) i1.toNatClampNeg) / 2)) (a + 8) (mx_i (mx_wi h (a + 10) (mx_i h (a + 7) 0).toNatClampNeg ((mx_i h (a + 10) i1.toNatClampNeg) / 2)) (a + 7) 0).toNatClampNeg (mx_i h (a + 8) i1.toNatClampNeg)) (a + 7) 0).toNatClampNeg (mx_i h (a + 9) i1.toNatClampNeg)) (a + 7) 0) 10 ∧ (vp_in (mx_i (mx_wi (mx_wi (mx_wi (mx_wi h (a + 10) (mx_i h (a + 7) 0).toNatClampNeg ((mx_i h (a + 10) i1.toNatClampNeg) / 2)) (a + 8) (mx_i (mx_wi h (a + 10) (mx_i h (a + 7) 0).toNatClampNeg ((mx_i h (a + 10) i1.toNatClampNeg) / 2)) (a + 7) 0).toNatClampNeg (mx_i h (a + 8) i1.toNatClampNeg)) (a + 9) (mx_i (mx_wi (mx_wi h (a + 10) (mx_i h (a + 7) 0).toNatClampNeg ((mx_i h (a + 10) i1.toNatClampNeg) / 2)) (a + 8) (mx_i (mx_wi h (a + 10) (mx_i h (a + 7) 0).toNatClampNeg ((mx_i h (a + 10) i1.toNatClampNeg) / 2)) (a + 7) 0).toNatClampNeg (mx_i h (a + 8) i1.toNatClampNeg)) (a + 7) 0).toNatClampNeg (mx_i h (a + 9) i1.toNatClampNeg)) (a + 11) (mx_i (mx_wi (mx_wi (mx_wi h (a + 10) (mx_i h (a + 7) 0).toNatClampNeg ((mx_i h (a + 10) i1.toNatClampNeg) / 2)) (a + 8) (mx_i (mx_wi h (a + 10) (mx_i h (a + 7) 0).toNatClampNeg ((mx_i h (a + 10) i1.toNatClampNeg) / 2)) (a + 7) 0).toNatClampNeg (mx_i h (a + 8) i1.toNatClampNeg)) (a + 9) (mx_i (mx_wi (mx_wi h (a + 10) (mx_i h (a + 7) 0).toNatClampNeg ((mx_i h (a + 10) i1.toNatClampNeg) / 2)) (a + 8) (mx_i (mx_wi h (a + 10) (mx_i h (a + 7) 0).toNatClampNeg ((mx_i h (a + 10) i1.toNatClampNeg) / 2)) (a + 7) 0).toNatClampNeg (mx_i h (a + 8) i1.toNatClampNeg)) (a + 7) 0).toNatClampNeg (mx_i h (a + 9) i1.toNatClampNeg)) (a + 7) 0).toNatClampNeg 0) (a + 7) 0) 10 ∧ True)))))) ∧ (¬ (V_67 h a) = 0 → True)) ∧ (∀ h3, h3 = W_68 h a ((mx_i h (a + 10) i1.toNatClampNeg) / 2) (mx_i h (a + 8) i1.toNatClampNeg) (mx_i h (a + 9) i1.toNatClampNeg) (mx_i h (a + 12) i1.toNatClampNeg) → (((V_68 h a ((mx_i h (a + 10) i1.toNatClampNeg) / 2) (mx_i h (a + 8) i1.toNatClampNeg) (mx_i h (a + 9) i1.toNatClampNeg) (mx_i h (a + 12) i1.toNatClampNeg)) = (-1) → Q (.inl (some (.int (V_68 h a ((mx_i h (a + 10) i1.toNatClampNeg) / 2) (mx_i h (a + 8) i1.toNatClampNeg) (mx_i h (a + 9) i1.toNatClampNeg) (mx_i h (a + 12) i1.toNatClampNeg))))) h3) ∧ (¬ (V_68 h a ((mx_i h (a + 10) i1.toNatClampNeg) / 2) (mx_i h (a + 8) i1.toNatClampNeg) (mx_i h (a + 9) i1.toNatClampNeg) (mx_i h (a + 12) i1.toNatClampNeg)) = (-1) → (vp_in (V_68 h a ((mx_i h (a + 10) i1.toNatClampNeg) / 2) (mx_i h (a + 8) i1.toNatClampNeg) (mx_i h (a + 9) i1.toNatClampNeg) (mx_i h (a + 12) i1.toNatClampNeg)) 10 ∧ (∀ h9, h9 = mx_wi h3 (a + 11) (V_68 h a ((mx_i h (a + 10) i1.toNatClampNeg) / 2) (mx_i h (a + 8) i1.toNatClampNeg) (mx_i h (a + 9) i1.toNatClampNeg) (mx_i h (a + 12) i1.toNatClampNeg)).toNatClampNeg (mx_i h3 (a + 11) i1.toNatClampNeg) → (∀ h12, h12 = mx_wi h9 (a + 10) i1.toNatClampNeg ((mx_i h9 (a + 10) i1.toNatClampNeg) - ((mx_i h (a + 10) i1.toNatClampNeg) / 2)) → Q (.inl (some (.int (V_68 h a ((mx_i h (a + 10) i1.toNatClampNeg) / 2) (mx_i h (a + 8) i1.toNatClampNeg) (mx_i h (a + 9) i1.toNatClampNeg) (mx_i h (a + 12) i1.toNatClampNeg))))) h12))))))))) : mx_wp (d + 2) 69 0 (mx_fr 69 [.ref (a + 7), .int i1]) [] h Q := by
  show mx_wp (d + 2) 69 0 [some (.ref (a + 7)), some (.int i1), none, none] [] h Q
  obtain ⟨o1, H⟩ := H
  refine wp_steps (i' := 21) (ls' := [some (.ref (a + 7)), some (.int i1), some (.int ((mx_i h (a + 10) i1.toNatClampNeg) / 2)), none]) (st' := [.int (mx_i h (a + 12) i1.toNatClampNeg), .int (mx_i h (a + 9) i1.toNatClampNeg), .int (mx_i h (a + 8) i1.toNatClampNeg), .int ((mx_i h (a + 10) i1.toNatClampNeg) / 2), .ref (a + 7)]) (h' := h) (P := ((mxT (a + 7)).1 = 7 ∧ mxG h) ∧ (((mxT (a + 10)).1 = 50 ∧ mxG h) ∧ vp_in i1 (mxT (a + 10)).2) ∧ (¬ (2 : Int32) = 0) ∧ ((mxT (a + 7)).1 = 7 ∧ mxG h) ∧ (((mxT (a + 8)).1 = 50 ∧ mxG h) ∧ vp_in i1 (mxT (a + 8)).2) ∧ ((mxT (a + 7)).1 = 7 ∧ mxG h) ∧ (((mxT (a + 9)).1 = 50 ∧ mxG h) ∧ vp_in i1 (mxT (a + 9)).2) ∧ ((mxT (a + 7)).1 = 7 ∧ mxG h) ∧ (((mxT (a + 12)).1 = 50 ∧ mxG h) ∧ vp_in i1 (mxT (a + 12)).2) ∧ True) 21 rfl rfl ⟨⟨(congrArg Prod.fst (sV_7 hVa)), G⟩, (cA (sV_10 hVa) G o1), (by decide), ⟨(congrArg Prod.fst (sV_7 hVa)), G⟩, (cA (sV_8 hVa) G o1), ⟨(congrArg Prod.fst (sV_7 hVa)), G⟩, (cA (sV_9 hVa) G o1), ⟨(congrArg Prod.fst (sV_7 hVa)), G⟩, (cA (sV_12 hVa) G o1), trivial⟩ ?_
  obtain ⟨o2, H⟩ := H
  refine wp_call (b := false) (y' := 68) (as := [.ref (a + 7), .int ((mx_i h (a + 10) i1.toNatClampNeg) / 2), .int (mx_i h (a + 8) i1.toNatClampNeg), .int (mx_i h (a + 9) i1.toNatClampNeg), .int (mx_i h (a + 12) i1.toNatClampNeg)]) (rest := []) (P := ((mxT (a + 7)).1 = mxRc 68 ∧ mxG h)) rfl (by with_unfolding_all rfl) ⟨(congrArg Prod.fst (sV_7 hVa)), G⟩ (Nat.le_of_ble_eq_true rfl) (sp_68 G hVa o2 ?_)
  show mx_wp (d + 2) 69 22 [some (.ref (a + 7)), some (.int i1), some (.int ((mx_i h (a + 10) i1.toNatClampNeg) / 2)), none] [.int (V_68 h a ((mx_i h (a + 10) i1.toNatClampNeg) / 2) (mx_i h (a + 8) i1.toNatClampNeg) (mx_i h (a + 9) i1.toNatClampNeg) (mx_i h (a + 12) i1.toNatClampNeg))] (W_68 h a ((mx_i h (a + 10) i1.toNatClampNeg) / 2) (mx_i h (a + 8) i1.toNatClampNeg) (mx_i h (a + 9) i1.toNatClampNeg) (mx_i h (a + 12) i1.toNatClampNeg)) Q
  obtain ⟨h3, e4⟩ : ∃ z9, z9 = W_68 h a ((mx_i h (a + 10) i1.toNatClampNeg) / 2) (mx_i h (a + 8) i1.toNatClampNeg) (mx_i h (a + 9) i1.toNatClampNeg) (mx_i h (a + 12) i1.toNatClampNeg) := ⟨_, rfl⟩
  rw [← e4]
  have H := H h3 e4
  have K6 : mxK h h3 := e4 ▸ KW_68
  have G5 : mxG h3 := mxK_G K6 G
  refine wp_steps (i' := 25) (ls' := [some (.ref (a + 7)), some (.int i1), some (.int ((mx_i h (a + 10) i1.toNatClampNeg) / 2)), some (.int (V_68 h a ((mx_i h (a + 10) i1.toNatClampNeg) / 2) (mx_i h (a + 8) i1.toNatClampNeg) (mx_i h (a + 9) i1.toNatClampNeg) (mx_i h (a + 12) i1.toNatClampNeg)))]) (st' := [.int (-1), .int (V_68 h a ((mx_i h (a + 10) i1.toNatClampNeg) / 2) (mx_i h (a + 8) i1.toNatClampNeg) (mx_i h (a + 9) i1.toNatClampNeg) (mx_i h (a + 12) i1.toNatClampNeg))]) (h' := h3) (P := True) 3 rfl rfl trivial ?_
  refine wp_br (P := True) (c := (V_68 h a ((mx_i h (a + 10) i1.toNatClampNeg) / 2) (mx_i h (a + 8) i1.toNatClampNeg) (mx_i h (a + 9) i1.toNatClampNeg) (mx_i h (a + 12) i1.toNatClampNeg)) = (-1)) (t := 42) (st' := []) rfl rfl trivial (fun c7 => ?_) (fun c7 => ?_)
  · skip
    have H := H.1 c7
    refine wp_steps (i' := 43) (ls' := [some (.ref (a + 7)), some (.int i1), some (.int ((mx_i h (a + 10) i1.toNatClampNeg) / 2)), some (.int (V_68 h a ((mx_i h (a + 10) i1.toNatClampNeg) / 2) (mx_i h (a + 8) i1.toNatClampNeg) (mx_i h (a + 9) i1.toNatClampNeg) (mx_i h (a + 12) i1.toNatClampNeg)))]) (st' := [.int (V_68 h a ((mx_i h (a + 10) i1.toNatClampNeg) / 2) (mx_i h (a + 8) i1.toNatClampNeg) (mx_i h (a + 9) i1.toNatClampNeg) (mx_i h (a + 12) i1.toNatClampNeg))]) (h' := h3) (P := True) 1 rfl rfl trivial ?_
    exact wp_end (o := .inl (some (.int (V_68 h a ((mx_i h (a + 10) i1.toNatClampNeg) / 2) (mx_i h (a + 8) i1.toNatClampNeg) (mx_i h (a + 9) i1.toNatClampNeg) (mx_i h (a + 12) i1.toNatClampNeg))))) (h' := h3) (P := True) rfl rfl trivial H
  · skip
    have H := H.2 c7
    obtain ⟨o8, H⟩ := H
    refine wp_steps (i' := 34) (ls' := [some (.ref (a + 7)), some (.int i1), some (.int ((mx_i h (a + 10) i1.toNatClampNeg) / 2)), some (.int (V_68 h a ((mx_i h (a + 10) i1.toNatClampNeg) / 2) (mx_i h (a + 8) i1.toNatClampNeg) (mx_i h (a + 9) i1.toNatClampNeg) (mx_i h (a + 12) i1.toNatClampNeg)))]) (st' := []) (h' := mx_wi h3 (a + 11) (V_68 h a ((mx_i h (a + 10) i1.toNatClampNeg) / 2) (mx_i h (a + 8) i1.toNatClampNeg) (mx_i h (a + 9) i1.toNatClampNeg) (mx_i h (a + 12) i1.toNatClampNeg)).toNatClampNeg (mx_i h3 (a + 11) i1.toNatClampNeg)) (P := ((mxT (a + 7)).1 = 7 ∧ mxG h3) ∧ ((mxT (a + 7)).1 = 7 ∧ mxG h3) ∧ (((mxT (a + 11)).1 = 50 ∧ mxG h3) ∧ vp_in i1 (mxT (a + 11)).2) ∧ (((mxT (a + 11)).1 = 50 ∧ mxG h3) ∧ vp_in (V_68 h a ((mx_i h (a + 10) i1.toNatClampNeg) / 2) (mx_i h (a + 8) i1.toNatClampNeg) (mx_i h (a + 9) i1.toNatClampNeg) (mx_i h (a + 12) i1.toNatClampNeg)) (mxT (a + 11)).2) ∧ True) 8 rfl rfl ⟨⟨(congrArg Prod.fst (sV_7 hVa)), G5⟩, ⟨(congrArg Prod.fst (sV_7 hVa)), G5⟩, (cA (sV_11 hVa) G5 o1), (cA (sV_11 hVa) G5 o8), trivial⟩ ?_
    obtain ⟨h9, e10⟩ : ∃ z9, z9 = mx_wi h3 (a + 11) (V_68 h a ((mx_i h (a + 10) i1.toNatClampNeg) / 2) (mx_i h (a + 8) i1.toNatClampNeg) (mx_i h (a + 9) i1.toNatClampNeg) (mx_i h (a + 12) i1.toNatClampNeg)).toNatClampNeg (mx_i h3 (a + 11) i1.toNatClampNeg) := ⟨_, rfl⟩
    rw [← e10]
    have H := H h9 e10
    have G11 : mxG h9 := e10 ▸ mxG_wi G5
    refine wp_steps (i' := 42) (ls' := [some (.ref (a + 7)), some (.int i1), some (.int ((mx_i h (a + 10) i1.toNatClampNeg) / 2)), some (.int (V_68 h a ((mx_i h (a + 10) i1.toNatClampNeg) / 2) (mx_i h (a + 8) i1.toNatClampNeg) (mx_i h (a + 9) i1.toNatClampNeg) (mx_i h (a + 12) i1.toNatClampNeg)))]) (st' := []) (h' := mx_wi h9 (a + 10) i1.toNatClampNeg ((mx_i h9 (a + 10) i1.toNatClampNeg) - ((mx_i h (a + 10) i1.toNatClampNeg) / 2))) (P := ((mxT (a + 7)).1 = 7 ∧ mxG h9) ∧ (((mxT (a + 10)).1 = 50 ∧ mxG h9) ∧ vp_in i1 (mxT (a + 10)).2) ∧ (((mxT (a + 10)).1 = 50 ∧ mxG h9) ∧ vp_in i1 (mxT (a + 10)).2) ∧ True) 8 rfl rfl ⟨⟨(congrArg Prod.fst (sV_7 hVa)), G11⟩, (cA (sV_10 hVa) G11 o1), (cA (sV_10 hVa) G11 o1), trivial⟩ ?_
    obtain ⟨h12, e13⟩ : ∃ z9, z9 = mx_wi h9 (a + 10) i1.toNatClampNeg ((mx_i h9 (a + 10) i1.toNatClampNeg) - ((mx_i h (a + 10) i1.toNatClampNeg) / 2)) := ⟨_, rfl⟩
    rw [← e13]
    have H := H h12 e13
    have G14 : mxG h12 := e13 ▸ mxG_wi G11
    refine wp_steps (i' := 43) (ls' := [some (.ref (a + 7)), some (.int i1), some (.int ((mx_i h (a + 10) i1.toNatClampNeg) / 2)), some (.int (V_68 h a ((mx_i h (a + 10) i1.toNatClampNeg) / 2) (mx_i h (a + 8) i1.toNatClampNeg) (mx_i h (a + 9) i1.toNatClampNeg) (mx_i h (a + 12) i1.toNatClampNeg)))]) (st' := [.int (V_68 h a ((mx_i h (a + 10) i1.toNatClampNeg) / 2) (mx_i h (a + 8) i1.toNatClampNeg) (mx_i h (a + 9) i1.toNatClampNeg) (mx_i h (a + 12) i1.toNatClampNeg))]) (h' := h12) (P := True) 1 rfl rfl trivial ?_
    exact wp_end (o := .inl (some (.int (V_68 h a ((mx_i h (a + 10) i1.toNatClampNeg) / 2) (mx_i h (a + 8) i1.toNatClampNeg) (mx_i h (a + 9) i1.toNatClampNeg) (mx_i h (a + 12) i1.toNatClampNeg))))) (h' := h12) (P := True) rfl rfl trivial H
def V_69 (h : mxH) (a : Nat) (i1 : Int32) : Int32 := (V_68 h a ((mx_i h (a + 10) i1.toNatClampNeg) / 2) (mx_i h (a + 8) i1.toNatClampNeg) (mx_i h (a + 9) i1.toNatClampNeg) (mx_i h (a + 12) i1.toNatClampNeg))
def W_69 (h : mxH) (a : Nat) (i1 : Int32) : mxH := (if (V_68 h a ((mx_i h (a + 10) i1.toNatClampNeg) / 2) (mx_i h (a + 8) i1.toNatClampNeg) (mx_i h (a + 9) i1.toNatClampNeg) (mx_i h (a + 12) i1.toNatClampNeg)) = (-1) then (W_68 h a ((mx_i h (a + 10) i1.toNatClampNeg) / 2) (mx_i h (a + 8) i1.toNatClampNeg) (mx_i h (a + 9) i1.toNatClampNeg) (mx_i h (a + 12) i1.toNatClampNeg)) else (mx_wi (mx_wi (W_68 h a ((mx_i h (a + 10) i1.toNatClampNeg) / 2) (mx_i h (a + 8) i1.toNatClampNeg) (mx_i h (a + 9) i1.toNatClampNeg) (mx_i h (a + 12) i1.toNatClampNeg)) (a + 11) (V_68 h a ((mx_i h (a + 10) i1.toNatClampNeg) / 2) (mx_i h (a + 8) i1.toNatClampNeg) (mx_i h (a + 9) i1.toNatClampNeg) (mx_i h (a + 12) i1.toNatClampNeg)).toNatClampNeg (mx_i (W_68 h a ((mx_i h (a + 10) i1.toNatClampNeg) / 2) (mx_i h (a + 8) i1.toNatClampNeg) (mx_i h (a + 9) i1.toNatClampNeg) (mx_i h (a + 12) i1.toNatClampNeg)) (a + 11) i1.toNatClampNeg)) (a + 10) i1.toNatClampNeg ((mx_i (mx_wi (W_68 h a ((mx_i h (a + 10) i1.toNatClampNeg) / 2) (mx_i h (a + 8) i1.toNatClampNeg) (mx_i h (a + 9) i1.toNatClampNeg) (mx_i h (a + 12) i1.toNatClampNeg)) (a + 11) (V_68 h a ((mx_i h (a + 10) i1.toNatClampNeg) / 2) (mx_i h (a + 8) i1.toNatClampNeg) (mx_i h (a + 9) i1.toNatClampNeg) (mx_i h (a + 12) i1.toNatClampNeg)).toNatClampNeg (mx_i (W_68 h a ((mx_i h (a + 10) i1.toNatClampNeg) / 2) (mx_i h (a + 8) i1.toNatClampNeg) (mx_i h (a + 9) i1.toNatClampNeg) (mx_i h (a + 12) i1.toNatClampNeg)) (a + 11) i1.toNatClampNeg)) (a + 10) i1.toNatClampNeg) - ((mx_i h (a + 10) i1.toNatClampNeg) / 2))))
theorem KW_69 {h : mxH} {a : Nat} {i1 : Int32} : mxK h (W_69 h a i1) := by
  unfold W_69
  repeat' (first | with_reducible exact mxK_rfl | with_reducible exact mxK_wi | with_reducible exact mxK_wrow | with_reducible refine mxK_ite ?_ ?_ | with_reducible refine mxK_tr ?_ mxK_wi | with_reducible refine mxK_tr ?_ mxK_wrow | with_reducible exact KW_68 | with_reducible refine mxK_tr ?_ KW_68)
theorem sp_69 {d : Nat} {h : mxH} {Q : mxO → mxH → Prop} {a : Nat} {i1 : Int32} (G : mxG h) (hVa : (mxT a).1 = 9) (x0 : vp_in i1 10) (x1 : (((V_67 h a) = 0 → (vp_in (mx_i h (a + 7) 0) 10 ∧ (vp_in (mx_i (mx_wi h (a + 10) (mx_i h (a + 7) 0).toNatClampNeg ((mx_i h (a + 10) i1.toNatClampNeg) / 2)) (a + 7) 0) 10 ∧ (vp_in (mx_i (mx_wi (mx_wi h (a + 10) (mx_i h (a + 7) 0).toNatClampNeg ((mx_i h (a + 10) i1.toNatClampNeg) / 2)) (a + 8) (mx_i (mx_wi h (a + 10) (mx_i h (a + 7) 0).toNatClampNeg ((mx_i h (a + 10) i1.toNatClampNeg) / 2)) (a + 7) 0).toNatClampNeg (mx_i h (a + 8) i1.toNatClampNeg)) (a + 7) 0) 10 ∧ (vp_in (mx_i (mx_wi (mx_wi (mx_wi h (a + 10) (mx_i h (a + 7) 0).toNatClampNeg ((mx_i h (a + 10) i1.toNatClampNeg) / 2)) (a + 8) (mx_i (mx_wi h (a + 10) (mx_i h (a + 7) 0).toNatClampNeg ((mx_i h (a + 10) i1.toNatClampNeg) / 2)) (a + 7) 0).toNatClampNeg (mx_i h (a + 8) i1.toNatClampNeg)) (a + 9) (mx_i (mx_wi (mx_wi h (a + 10) (mx_i h (a + 7) 0).toNatClampNeg ((mx_i h (a + 10) i1.toNatClampNeg) / 2)) (a + 8) (mx_i (mx_wi h (a + 10) (mx_i h (a + 7) 0).toNatClampNeg ((mx_i h (a + 10) i1.toNatClampNeg) / 2)) (a + 7) 0).toNatClampNeg (mx_i h (a + 8) i1.toNatClampNeg)) (a + 7) 0).toNatClampNeg (mx_i h (a + 9) i1.toNatClampNeg)) (a + 7) 0) 10 ∧ (vp_in (mx_i (mx_wi (mx_wi (mx_wi (mx_wi h (a + 10) (mx_i h (a + 7) 0).toNatClampNeg ((mx_i h (a + 10) i1.toNatClampNeg) / 2)) (a + 8) (mx_i (mx_wi h (a + 10) (mx_i h (a + 7) 0).toNatClampNeg ((mx_i h (a + 10) i1.toNatClampNeg) / 2)) (a + 7) 0).toNatClampNeg (mx_i h (a + 8) i1.toNatClampNeg)) (a + 9) (mx_i (mx_wi (mx_wi h (a + 10) (mx_i h (a + 7) 0).toNatClampNeg ((mx_i h (a + 10) i1.toNatClampNeg) / 2)) (a + 8) (mx_i (mx_wi h (a + 10) (mx_i h (a + 7) 0).toNatClampNeg ((mx_i h (a + 10) i1.toNatClampNeg) / 2)) (a + 7) 0).toNatClampNeg (mx_i h (a + 8) i1.toNatClampNeg)) (a + 7) 0).toNatClampNeg (mx_i h (a + 9) i1.toNatClampNeg)) (a + 11) (mx_i (mx_wi (mx_wi (mx_wi h (a + 10) (mx_i h (a + 7) 0).toNatClampNeg ((mx_i h (a + 10) i1.toNatClampNeg) / 2)) (a + 8) (mx_i (mx_wi h (a + 10) (mx_i h (a + 7) 0).toNatClampNeg ((mx_i h (a + 10) i1.toNatClampNeg) / 2)) (a + 7) 0).toNatClampNeg (mx_i h (a + 8) i1.toNatClampNeg)) (a + 9) (mx_i (mx_wi (mx_wi h (a + 10) (mx_i h (a + 7) 0).toNatClampNeg ((mx_i h (a + 10) i1.toNatClampNeg) / 2)) (a + 8) (mx_i (mx_wi h (a + 10) (mx_i h (a + 7) 0).toNatClampNeg ((mx_i h (a + 10) i1.toNatClampNeg) / 2)) (a + 7) 0).toNatClampNeg (mx_i h (a + 8) i1.toNatClampNeg)) (a + 7) 0).toNatClampNeg (mx_i h (a + 9) i1.toNatClampNeg)) (a + 7) 0).toNatClampNeg 0) (a + 7) 0) 10 ∧ True)))))) ∧ (¬ (V_67 h a) = 0 → True))) (x2 : (((V_68 h a ((mx_i h (a + 10) i1.toNatClampNeg) / 2) (mx_i h (a + 8) i1.toNatClampNeg) (mx_i h (a + 9) i1.toNatClampNeg) (mx_i h (a + 12) i1.toNatClampNeg)) = (-1) → True) ∧ (¬ (V_68 h a ((mx_i h (a + 10) i1.toNatClampNeg) / 2) (mx_i h (a + 8) i1.toNatClampNeg) (mx_i h (a + 9) i1.toNatClampNeg) (mx_i h (a + 12) i1.toNatClampNeg)) = (-1) → (vp_in (V_68 h a ((mx_i h (a + 10) i1.toNatClampNeg) / 2) (mx_i h (a + 8) i1.toNatClampNeg) (mx_i h (a + 9) i1.toNatClampNeg) (mx_i h (a + 12) i1.toNatClampNeg)) 10 ∧ True)))) (k : Q (.inl (some (.int (V_69 h a i1)))) (W_69 h a i1)) : mx_wp (d + 2) 69 0 (mx_fr 69 [.ref (a + 7), .int i1]) [] h Q := by
  unfold V_69 W_69 at k
  have hob : (vp_in i1 10 ∧ ((((V_67 h a) = 0 → (vp_in (mx_i h (a + 7) 0) 10 ∧ (vp_in (mx_i (mx_wi h (a + 10) (mx_i h (a + 7) 0).toNatClampNeg ((mx_i h (a + 10) i1.toNatClampNeg) / 2)) (a + 7) 0) 10 ∧ (vp_in (mx_i (mx_wi (mx_wi h (a + 10) (mx_i h (a + 7) 0).toNatClampNeg ((mx_i h (a + 10) i1.toNatClampNeg) / 2)) (a + 8) (mx_i (mx_wi h (a + 10) (mx_i h (a + 7) 0).toNatClampNeg ((mx_i h (a + 10) i1.toNatClampNeg) / 2)) (a + 7) 0).toNatClampNeg (mx_i h (a + 8) i1.toNatClampNeg)) (a + 7) 0) 10 ∧ (vp_in (mx_i (mx_wi (mx_wi (mx_wi h (a + 10) (mx_i h (a + 7) 0).toNatClampNeg ((mx_i h (a + 10) i1.toNatClampNeg) / 2)) (a + 8) (mx_i (mx_wi h (a + 10) (mx_i h (a + 7) 0).toNatClampNeg ((mx_i h (a + 10) i1.toNatClampNeg) / 2)) (a + 7) 0).toNatClampNeg (mx_i h (a + 8) i1.toNatClampNeg)) (a + 9) (mx_i (mx_wi (mx_wi h (a + 10) (mx_i h (a + 7) 0).toNatClampNeg ((mx_i h (a + 10) i1.toNatClampNeg) / 2)) (a + 8) (mx_i (mx_wi h (a + 10) (mx_i h (a + 7) 0).toNatClampNeg ((mx_i h (a + 10) i1.toNatClampNeg) / 2)) (a + 7) 0).toNatClampNeg (mx_i h (a + 8) i1.toNatClampNeg)) (a + 7) 0).toNatClampNeg (mx_i h (a + 9) i1.toNatClampNeg)) (a + 7) 0) 10 ∧ (vp_in (mx_i (mx_wi (mx_wi (mx_wi (mx_wi h (a + 10) (mx_i h (a + 7) 0).toNatClampNeg ((mx_i h (a + 10) i1.toNatClampNeg) / 2)) (a + 8) (mx_i (mx_wi h (a + 10) (mx_i h (a + 7) 0).toNatClampNeg ((mx_i h (a + 10) i1.toNatClampNeg) / 2)) (a + 7) 0).toNatClampNeg (mx_i h (a + 8) i1.toNatClampNeg)) (a + 9) (mx_i (mx_wi (mx_wi h (a + 10) (mx_i h (a + 7) 0).toNatClampNeg ((mx_i h (a + 10) i1.toNatClampNeg) / 2)) (a + 8) (mx_i (mx_wi h (a + 10) (mx_i h (a + 7) 0).toNatClampNeg ((mx_i h (a + 10) i1.toNatClampNeg) / 2)) (a + 7) 0).toNatClampNeg (mx_i h (a + 8) i1.toNatClampNeg)) (a + 7) 0).toNatClampNeg (mx_i h (a + 9) i1.toNatClampNeg)) (a + 11) (mx_i (mx_wi (mx_wi (mx_wi h (a + 10) (mx_i h (a + 7) 0).toNatClampNeg ((mx_i h (a + 10) i1.toNatClampNeg) / 2)) (a + 8) (mx_i (mx_wi h (a + 10) (mx_i h (a + 7) 0).toNatClampNeg ((mx_i h (a + 10) i1.toNatClampNeg) / 2)) (a + 7) 0).toNatClampNeg (mx_i h (a + 8) i1.toNatClampNeg)) (a + 9) (mx_i (mx_wi (mx_wi h (a + 10) (mx_i h (a + 7) 0).toNatClampNeg ((mx_i h (a + 10) i1.toNatClampNeg) / 2)) (a + 8) (mx_i (mx_wi h (a + 10) (mx_i h (a + 7) 0).toNatClampNeg ((mx_i h (a + 10) i1.toNatClampNeg) / 2)) (a + 7) 0).toNatClampNeg (mx_i h (a + 8) i1.toNatClampNeg)) (a + 7) 0).toNatClampNeg (mx_i h (a + 9) i1.toNatClampNeg)) (a + 7) 0).toNatClampNeg 0) (a + 7) 0) 10 ∧ True)))))) ∧ (¬ (V_67 h a) = 0 → True)) ∧ (((V_68 h a ((mx_i h (a + 10) i1.toNatClampNeg) / 2) (mx_i h (a + 8) i1.toNatClampNeg) (mx_i h (a + 9) i1.toNatClampNeg) (mx_i h (a + 12) i1.toNatClampNeg)) = (-1) → True) ∧ (¬ (V_68 h a ((mx_i h (a + 10) i1.toNatClampNeg) / 2) (mx_i h (a + 8) i1.toNatClampNeg) (mx_i h (a + 9) i1.toNatClampNeg) (mx_i h (a + 12) i1.toNatClampNeg)) = (-1) → (vp_in (V_68 h a ((mx_i h (a + 10) i1.toNatClampNeg) / 2) (mx_i h (a + 8) i1.toNatClampNeg) (mx_i h (a + 9) i1.toNatClampNeg) (mx_i h (a + 12) i1.toNatClampNeg)) 10 ∧ True))))) := ⟨x0, ⟨x1, x2⟩⟩
  refine tr_69_0 G hVa ?_
  obtain ⟨q0, hob⟩ := hob
  refine ⟨q0, ?_⟩
  obtain ⟨q0, hob⟩ := hob
  refine ⟨q0, ?_⟩
  intro h3 eh3
  subst eh3
  refine ⟨fun c9 => ?_, fun c9 => ?_⟩
  · try simp only [if_pos c9] at k
    have hob := hob.1 c9
    exact k
  · try simp only [if_neg c9] at k
    have hob := hob.2 c9
    obtain ⟨q0, hob⟩ := hob
    refine ⟨q0, ?_⟩
    intro h9 eh9
    subst eh9
    intro h12 eh12
    subst eh12
    exact k
/-! 72: StoneBacks$Stones.wornForOthersBy(I)I -/
def H_72_4 (d : Nat) (h : mxH) (a : Nat) (i1 : Int32) (i2 : Int32) (i3 : Int32) (Q : mxO → mxH → Prop) : Prop := mx_wp d 72 4 [some (.ref (a + 7)), some (.int i1), some (.int i2), some (.int i3)] [] h Q
set_option maxRecDepth 8000 in
theorem tr_72_0 {d : Nat} {h : mxH} {Q : mxO → mxH → Prop} {a : Nat} {i1 : Int32} (G : mxG h) (hVa : (mxT a).1 = 9) (H : H_72_4 (d + 1) h a i1 0 0 Q) : mx_wp (d + 1) 72 0 (mx_fr 72 [.ref (a + 7), .int i1]) [] h Q := by
  show mx_wp (d + 1) 72 0 [some (.ref (a + 7)), some (.int i1), none, none] [] h Q
  refine wp_steps (i' := 4) (ls' := [some (.ref (a + 7)), some (.int i1), some (.int 0), some (.int 0)]) (st' := []) (h' := h) (P := True) 4 rfl rfl trivial ?_
  exact H 
set_option maxRecDepth 8000 in
theorem tr_72_4 {d : Nat} {h : mxH} {Q : mxO → mxH → Prop} {a : Nat} {i1 : Int32} {i2 : Int32} {i3 : Int32} (G : mxG h) (hVa : (mxT a).1 = 9) (H : ((i3 < (mx_i h (a + 7) 0) → (vp_in i3 10 ∧ (∀ (v3 : Int32), v3 = ((if (V_70 h a i3) = i1 then (if (mx_i h (a + 8) i3.toNatClampNeg) = i1 then i2 else (i2 ||| ((1 : Int32) <<< (i3 &&& 31)))) else i2) : Int32) → H_72_4 (d + 1) h a i1 v3 (i3 + 1) Q))) ∧ (¬ i3 < (mx_i h (a + 7) 0) → Q (.inl (some (.int i2))) h))) : H_72_4 (d + 1) h a i1 i2 i3 Q := by
  show mx_wp (d + 1) 72 4 [some (.ref (a + 7)), some (.int i1), some (.int i2), some (.int i3)] [] h Q
  refine wp_steps (i' := 7) (ls' := [some (.ref (a + 7)), some (.int i1), some (.int i2), some (.int i3)]) (st' := [.int (mx_i h (a + 7) 0), .int i3]) (h' := h) (P := ((mxT (a + 7)).1 = 7 ∧ mxG h) ∧ True) 3 rfl rfl ⟨⟨(congrArg Prod.fst (sV_7 hVa)), G⟩, trivial⟩ ?_
  refine wp_br (P := True) (c := (mx_i h (a + 7) 0) ≤ i3) (t := 27) (st' := []) rfl rfl trivial (fun c1 => ?_) (fun c1 => ?_)
  · have c1 := Int32.not_lt.mpr c1
    have H := H.2 c1
    refine wp_steps (i' := 28) (ls' := [some (.ref (a + 7)), some (.int i1), some (.int i2), some (.int i3)]) (st' := [.int i2]) (h' := h) (P := True) 1 rfl rfl trivial ?_
    exact wp_end (o := .inl (some (.int i2))) (h' := h) (P := True) rfl rfl trivial H
  · have c1 := Int32.not_le.mp c1
    have H := H.1 c1
    refine wp_steps (i' := 10) (ls' := [some (.ref (a + 7)), some (.int i1), some (.int i2), some (.int i3)]) (st' := [.int i3, .ref (a + 7)]) (h' := h) (P := True) 2 rfl rfl trivial ?_
    obtain ⟨o2, H⟩ := H
    refine wp_call (b := false) (y' := 70) (as := [.ref (a + 7), .int i3]) (rest := []) (P := ((mxT (a + 7)).1 = mxRc 70 ∧ mxG h)) rfl (by with_unfolding_all rfl) ⟨(congrArg Prod.fst (sV_7 hVa)), G⟩ (Nat.le_of_ble_eq_true rfl) (sp_70 G hVa o2 ?_)
    show mx_wp (d + 1) 72 11 [some (.ref (a + 7)), some (.int i1), some (.int i2), some (.int i3)] [.int (V_70 h a i3)] h Q
    refine wp_steps (i' := 12) (ls' := [some (.ref (a + 7)), some (.int i1), some (.int i2), some (.int i3)]) (st' := [.int i1, .int (V_70 h a i3)]) (h' := h) (P := True) 1 rfl rfl trivial ?_
    have J : ∀ (v3 : Int32) (ev3 : v3 = ((if (V_70 h a i3) = i1 then (if (mx_i h (a + 8) i3.toNatClampNeg) = i1 then i2 else (i2 ||| ((1 : Int32) <<< (i3 &&& 31)))) else i2) : Int32)), mx_wp (d + 1) 72 25 [some (.ref (a + 7)), some (.int i1), some (.int v3), some (.int i3)] [] h Q := by
      intro v3 ev3
      have H := H v3 ev3
      refine wp_steps (i' := 26) (ls' := [some (.ref (a + 7)), some (.int i1), some (.int v3), some (.int (i3 + 1))]) (st' := []) (h' := h) (P := True) 1 rfl rfl trivial ?_
      refine wp_J (j := 4) (st' := []) rfl rfl ?_
      exact H 
    refine wp_br (P := True) (c := ¬ (V_70 h a i3) = i1) (t := 25) (st' := []) rfl rfl trivial (fun c4 => ?_) (fun c4 => ?_)
    · skip
      exact J _ (by rw [if_neg c4])
    · have c4 := Decidable.of_not_not c4
      refine wp_steps (i' := 18) (ls' := [some (.ref (a + 7)), some (.int i1), some (.int i2), some (.int i3)]) (st' := [.int i1, .int (mx_i h (a + 8) i3.toNatClampNeg)]) (h' := h) (P := ((mxT (a + 7)).1 = 7 ∧ mxG h) ∧ (((mxT (a + 8)).1 = 50 ∧ mxG h) ∧ vp_in i3 (mxT (a + 8)).2) ∧ True) 5 rfl rfl ⟨⟨(congrArg Prod.fst (sV_7 hVa)), G⟩, (cA (sV_8 hVa) G o2), trivial⟩ ?_
      refine wp_br (P := True) (c := (mx_i h (a + 8) i3.toNatClampNeg) = i1) (t := 25) (st' := []) rfl rfl trivial (fun c5 => ?_) (fun c5 => ?_)
      · skip
        exact J _ (by rw [if_pos c4, if_pos c5])
      · skip
        refine wp_steps (i' := 25) (ls' := [some (.ref (a + 7)), some (.int i1), some (.int (i2 ||| ((1 : Int32) <<< (i3 &&& 31)))), some (.int i3)]) (st' := []) (h' := h) (P := True) 6 rfl rfl trivial ?_
        exact J _ (by rw [if_pos c4, if_neg c5])
def F_72_4 (h : mxH) (a : Nat) (i1 : Int32) (z : Nat) (s : Int32) : Int32 := ((if (V_70 h a (nI z)) = i1 then (if (mx_i h (a + 8) (nI z).toNatClampNeg) = i1 then s else (s ||| ((1 : Int32) <<< ((nI z) &&& 31)))) else s) : Int32)
theorem lp_72_4 {d : Nat} {h : mxH} {Q : mxO → mxH → Prop} {a : Nat} {i1 : Int32} {s0 : Int32} {n : Nat} (z0 : Nat) (G : mxG h) (hVa : (mxT a).1 = 9) (hB : (mx_i h (a + 7) 0) = nI n) (hn : n < 2147483648) (hz : z0 ≤ n) (ob : ∀ z, z0 ≤ z → z < n → (vp_in (nI z) 10 ∧ True)) (k : Q (.inl (some (.int (fz (F_72_4 h a i1) z0 n s0)))) h) : H_72_4 (d + 1) h a i1 s0 (nI z0) Q := by
  have L : ∀ (j z : Nat), z0 ≤ z → z + j = n → H_72_4 (d + 1) h a i1 (fz (F_72_4 h a i1) z0 z s0) (nI z) Q := by
    intro j
    induction j with
    | zero =>
      intro z hz0 hzn
      have hzn : z = n := by omega
      subst hzn
      refine tr_72_4 G hVa ⟨fun c9 => absurd (hB ▸ c9) Int32.lt_irrefl, fun c9 => k⟩
    | succ j ih =>
      intro z hz0 hzn
      have hih := ih (z + 1) (by omega) (by omega)
      rw [nI_succ, fz_s hz0] at hih
      have hob := ob z hz0 (by omega)
      refine tr_72_4 G hVa ⟨fun c9 => ?_, fun c9 => absurd (hB.symm ▸ nI_lt (by omega) hn) c9⟩
      obtain ⟨q0, hob⟩ := hob
      refine ⟨q0, ?_⟩
      intro v3 ev3
      subst ev3
      exact hih
  have L0 := L (n - z0) z0 (Nat.le_refl _) (by omega)
  simp only [fz_0] at L0
  exact L0
def V_72 (h : mxH) (a : Nat) (i1 : Int32) : Int32 := (fo (F_72_4 h a i1) ((mx_i h (a + 7) 0)).toNatClampNeg 0)
theorem sp_72 {d : Nat} {h : mxH} {Q : mxO → mxH → Prop} {a : Nat} {i1 : Int32} (G : mxG h) (hVa : (mxT a).1 = 9) (hcb : cB (mx_i h (a + 7) 0) 10) (k : Q (.inl (some (.int (V_72 h a i1)))) h) : mx_wp (d + 1) 72 0 (mx_fr 72 [.ref (a + 7), .int i1]) [] h Q := by
  unfold V_72 at k
  obtain ⟨n, hn, hB⟩ := hcb
  rw [hB, nI_clamp (by omega)] at k
  refine tr_72_0 G hVa ?_
  refine lp_72_4 (s0 := 0) 0 G hVa hB (by omega) (Nat.zero_le _) (fun z _ hz => ⟨vp_in_nI (by omega) (by decide), trivial⟩) ?_
  simp only [fz_fo]
  exact k
/-! 74: StoneBacks$Stones.laidAt(I)I -/
def H_74_4 (d : Nat) (h : mxH) (a : Nat) (i1 : Int32) (i2 : Int32) (i3 : Int32) (Q : mxO → mxH → Prop) : Prop := mx_wp d 74 4 [some (.ref (a + 7)), some (.int i1), some (.int i2), some (.int i3)] [] h Q
set_option maxRecDepth 8000 in
theorem tr_74_0 {d : Nat} {h : mxH} {Q : mxO → mxH → Prop} {a : Nat} {i1 : Int32} (G : mxG h) (hVa : (mxT a).1 = 9) (H : H_74_4 d h a i1 0 0 Q) : mx_wp d 74 0 (mx_fr 74 [.ref (a + 7), .int i1]) [] h Q := by
  show mx_wp d 74 0 [some (.ref (a + 7)), some (.int i1), none, none] [] h Q
  refine wp_steps (i' := 4) (ls' := [some (.ref (a + 7)), some (.int i1), some (.int 0), some (.int 0)]) (st' := []) (h' := h) (P := True) 4 rfl rfl trivial ?_
  exact H 
set_option maxRecDepth 8000 in
theorem tr_74_4 {d : Nat} {h : mxH} {Q : mxO → mxH → Prop} {a : Nat} {i1 : Int32} {i2 : Int32} {i3 : Int32} (G : mxG h) (hVa : (mxT a).1 = 9) (H : ((i3 < (mx_i h (a + 7) 0) → (vp_in i3 10 ∧ (∀ (v3 : Int32), v3 = ((if (mx_i h (a + 11) i3.toNatClampNeg) = 1 then (if (mx_i h (a + 12) i3.toNatClampNeg) = i1 then (i2 ||| ((1 : Int32) <<< (i3 &&& 31))) else i2) else i2) : Int32) → H_74_4 d h a i1 v3 (i3 + 1) Q))) ∧ (¬ i3 < (mx_i h (a + 7) 0) → Q (.inl (some (.int i2))) h))) : H_74_4 d h a i1 i2 i3 Q := by
  show mx_wp d 74 4 [some (.ref (a + 7)), some (.int i1), some (.int i2), some (.int i3)] [] h Q
  refine wp_steps (i' := 7) (ls' := [some (.ref (a + 7)), some (.int i1), some (.int i2), some (.int i3)]) (st' := [.int (mx_i h (a + 7) 0), .int i3]) (h' := h) (P := ((mxT (a + 7)).1 = 7 ∧ mxG h) ∧ True) 3 rfl rfl ⟨⟨(congrArg Prod.fst (sV_7 hVa)), G⟩, trivial⟩ ?_
  refine wp_br (P := True) (c := (mx_i h (a + 7) 0) ≤ i3) (t := 28) (st' := []) rfl rfl trivial (fun c1 => ?_) (fun c1 => ?_)
  · have c1 := Int32.not_lt.mpr c1
    have H := H.2 c1
    refine wp_steps (i' := 29) (ls' := [some (.ref (a + 7)), some (.int i1), some (.int i2), some (.int i3)]) (st' := [.int i2]) (h' := h) (P := True) 1 rfl rfl trivial ?_
    exact wp_end (o := .inl (some (.int i2))) (h' := h) (P := True) rfl rfl trivial H
  · have c1 := Int32.not_le.mp c1
    have H := H.1 c1
    obtain ⟨o2, H⟩ := H
    refine wp_steps (i' := 13) (ls' := [some (.ref (a + 7)), some (.int i1), some (.int i2), some (.int i3)]) (st' := [.int 1, .int (mx_i h (a + 11) i3.toNatClampNeg)]) (h' := h) (P := ((mxT (a + 7)).1 = 7 ∧ mxG h) ∧ (((mxT (a + 11)).1 = 50 ∧ mxG h) ∧ vp_in i3 (mxT (a + 11)).2) ∧ True) 5 rfl rfl ⟨⟨(congrArg Prod.fst (sV_7 hVa)), G⟩, (cA (sV_11 hVa) G o2), trivial⟩ ?_
    have J : ∀ (v3 : Int32) (ev3 : v3 = ((if (mx_i h (a + 11) i3.toNatClampNeg) = 1 then (if (mx_i h (a + 12) i3.toNatClampNeg) = i1 then (i2 ||| ((1 : Int32) <<< (i3 &&& 31))) else i2) else i2) : Int32)), mx_wp d 74 26 [some (.ref (a + 7)), some (.int i1), some (.int v3), some (.int i3)] [] h Q := by
      intro v3 ev3
      have H := H v3 ev3
      refine wp_steps (i' := 27) (ls' := [some (.ref (a + 7)), some (.int i1), some (.int v3), some (.int (i3 + 1))]) (st' := []) (h' := h) (P := True) 1 rfl rfl trivial ?_
      refine wp_J (j := 4) (st' := []) rfl rfl ?_
      exact H 
    refine wp_br (P := True) (c := ¬ (mx_i h (a + 11) i3.toNatClampNeg) = 1) (t := 26) (st' := []) rfl rfl trivial (fun c4 => ?_) (fun c4 => ?_)
    · skip
      exact J _ (by rw [if_neg c4])
    · have c4 := Decidable.of_not_not c4
      refine wp_steps (i' := 19) (ls' := [some (.ref (a + 7)), some (.int i1), some (.int i2), some (.int i3)]) (st' := [.int i1, .int (mx_i h (a + 12) i3.toNatClampNeg)]) (h' := h) (P := ((mxT (a + 7)).1 = 7 ∧ mxG h) ∧ (((mxT (a + 12)).1 = 50 ∧ mxG h) ∧ vp_in i3 (mxT (a + 12)).2) ∧ True) 5 rfl rfl ⟨⟨(congrArg Prod.fst (sV_7 hVa)), G⟩, (cA (sV_12 hVa) G o2), trivial⟩ ?_
      refine wp_br (P := True) (c := ¬ (mx_i h (a + 12) i3.toNatClampNeg) = i1) (t := 26) (st' := []) rfl rfl trivial (fun c5 => ?_) (fun c5 => ?_)
      · skip
        exact J _ (by rw [if_pos c4, if_neg c5])
      · have c5 := Decidable.of_not_not c5
        refine wp_steps (i' := 26) (ls' := [some (.ref (a + 7)), some (.int i1), some (.int (i2 ||| ((1 : Int32) <<< (i3 &&& 31)))), some (.int i3)]) (st' := []) (h' := h) (P := True) 6 rfl rfl trivial ?_
        exact J _ (by rw [if_pos c4, if_pos c5])
def F_74_4 (h : mxH) (a : Nat) (i1 : Int32) (z : Nat) (s : Int32) : Int32 := ((if (mx_i h (a + 11) (nI z).toNatClampNeg) = 1 then (if (mx_i h (a + 12) (nI z).toNatClampNeg) = i1 then (s ||| ((1 : Int32) <<< ((nI z) &&& 31))) else s) else s) : Int32)
theorem lp_74_4 {d : Nat} {h : mxH} {Q : mxO → mxH → Prop} {a : Nat} {i1 : Int32} {s0 : Int32} {n : Nat} (z0 : Nat) (G : mxG h) (hVa : (mxT a).1 = 9) (hB : (mx_i h (a + 7) 0) = nI n) (hn : n < 2147483648) (hz : z0 ≤ n) (ob : ∀ z, z0 ≤ z → z < n → (vp_in (nI z) 10 ∧ True)) (k : Q (.inl (some (.int (fz (F_74_4 h a i1) z0 n s0)))) h) : H_74_4 d h a i1 s0 (nI z0) Q := by
  have L : ∀ (j z : Nat), z0 ≤ z → z + j = n → H_74_4 d h a i1 (fz (F_74_4 h a i1) z0 z s0) (nI z) Q := by
    intro j
    induction j with
    | zero =>
      intro z hz0 hzn
      have hzn : z = n := by omega
      subst hzn
      refine tr_74_4 G hVa ⟨fun c9 => absurd (hB ▸ c9) Int32.lt_irrefl, fun c9 => k⟩
    | succ j ih =>
      intro z hz0 hzn
      have hih := ih (z + 1) (by omega) (by omega)
      rw [nI_succ, fz_s hz0] at hih
      have hob := ob z hz0 (by omega)
      refine tr_74_4 G hVa ⟨fun c9 => ?_, fun c9 => absurd (hB.symm ▸ nI_lt (by omega) hn) c9⟩
      obtain ⟨q0, hob⟩ := hob
      refine ⟨q0, ?_⟩
      intro v3 ev3
      subst ev3
      exact hih
  have L0 := L (n - z0) z0 (Nat.le_refl _) (by omega)
  simp only [fz_0] at L0
  exact L0
def V_74 (h : mxH) (a : Nat) (i1 : Int32) : Int32 := (fo (F_74_4 h a i1) ((mx_i h (a + 7) 0)).toNatClampNeg 0)
theorem sp_74 {d : Nat} {h : mxH} {Q : mxO → mxH → Prop} {a : Nat} {i1 : Int32} (G : mxG h) (hVa : (mxT a).1 = 9) (hcb : cB (mx_i h (a + 7) 0) 10) (k : Q (.inl (some (.int (V_74 h a i1)))) h) : mx_wp d 74 0 (mx_fr 74 [.ref (a + 7), .int i1]) [] h Q := by
  unfold V_74 at k
  obtain ⟨n, hn, hB⟩ := hcb
  rw [hB, nI_clamp (by omega)] at k
  refine tr_74_0 G hVa ?_
  refine lp_74_4 (s0 := 0) 0 G hVa hB (by omega) (Nat.zero_le _) (fun z _ hz => ⟨vp_in_nI (by omega) (by decide), trivial⟩) ?_
  simp only [fz_fo]
  exact k
/-! 75: StoneBacks$Stones.bitsOfState(I)I -/
def H_75_4 (d : Nat) (h : mxH) (a : Nat) (i1 : Int32) (i2 : Int32) (i3 : Int32) (Q : mxO → mxH → Prop) : Prop := mx_wp d 75 4 [some (.ref (a + 7)), some (.int i1), some (.int i2), some (.int i3)] [] h Q
set_option maxRecDepth 8000 in
theorem tr_75_0 {d : Nat} {h : mxH} {Q : mxO → mxH → Prop} {a : Nat} {i1 : Int32} (G : mxG h) (hVa : (mxT a).1 = 9) (H : H_75_4 d h a i1 0 0 Q) : mx_wp d 75 0 (mx_fr 75 [.ref (a + 7), .int i1]) [] h Q := by
  show mx_wp d 75 0 [some (.ref (a + 7)), some (.int i1), none, none] [] h Q
  refine wp_steps (i' := 4) (ls' := [some (.ref (a + 7)), some (.int i1), some (.int 0), some (.int 0)]) (st' := []) (h' := h) (P := True) 4 rfl rfl trivial ?_
  exact H 
set_option maxRecDepth 8000 in
theorem tr_75_4 {d : Nat} {h : mxH} {Q : mxO → mxH → Prop} {a : Nat} {i1 : Int32} {i2 : Int32} {i3 : Int32} (G : mxG h) (hVa : (mxT a).1 = 9) (H : ((i3 < (mx_i h (a + 7) 0) → (vp_in i3 10 ∧ (∀ (v3 : Int32), v3 = ((if (mx_i h (a + 11) i3.toNatClampNeg) = i1 then (i2 ||| ((1 : Int32) <<< (i3 &&& 31))) else i2) : Int32) → H_75_4 d h a i1 v3 (i3 + 1) Q))) ∧ (¬ i3 < (mx_i h (a + 7) 0) → Q (.inl (some (.int i2))) h))) : H_75_4 d h a i1 i2 i3 Q := by
  show mx_wp d 75 4 [some (.ref (a + 7)), some (.int i1), some (.int i2), some (.int i3)] [] h Q
  refine wp_steps (i' := 7) (ls' := [some (.ref (a + 7)), some (.int i1), some (.int i2), some (.int i3)]) (st' := [.int (mx_i h (a + 7) 0), .int i3]) (h' := h) (P := ((mxT (a + 7)).1 = 7 ∧ mxG h) ∧ True) 3 rfl rfl ⟨⟨(congrArg Prod.fst (sV_7 hVa)), G⟩, trivial⟩ ?_
  refine wp_br (P := True) (c := (mx_i h (a + 7) 0) ≤ i3) (t := 22) (st' := []) rfl rfl trivial (fun c1 => ?_) (fun c1 => ?_)
  · have c1 := Int32.not_lt.mpr c1
    have H := H.2 c1
    refine wp_steps (i' := 23) (ls' := [some (.ref (a + 7)), some (.int i1), some (.int i2), some (.int i3)]) (st' := [.int i2]) (h' := h) (P := True) 1 rfl rfl trivial ?_
    exact wp_end (o := .inl (some (.int i2))) (h' := h) (P := True) rfl rfl trivial H
  · have c1 := Int32.not_le.mp c1
    have H := H.1 c1
    obtain ⟨o2, H⟩ := H
    refine wp_steps (i' := 13) (ls' := [some (.ref (a + 7)), some (.int i1), some (.int i2), some (.int i3)]) (st' := [.int i1, .int (mx_i h (a + 11) i3.toNatClampNeg)]) (h' := h) (P := ((mxT (a + 7)).1 = 7 ∧ mxG h) ∧ (((mxT (a + 11)).1 = 50 ∧ mxG h) ∧ vp_in i3 (mxT (a + 11)).2) ∧ True) 5 rfl rfl ⟨⟨(congrArg Prod.fst (sV_7 hVa)), G⟩, (cA (sV_11 hVa) G o2), trivial⟩ ?_
    have J : ∀ (v3 : Int32) (ev3 : v3 = ((if (mx_i h (a + 11) i3.toNatClampNeg) = i1 then (i2 ||| ((1 : Int32) <<< (i3 &&& 31))) else i2) : Int32)), mx_wp d 75 20 [some (.ref (a + 7)), some (.int i1), some (.int v3), some (.int i3)] [] h Q := by
      intro v3 ev3
      have H := H v3 ev3
      refine wp_steps (i' := 21) (ls' := [some (.ref (a + 7)), some (.int i1), some (.int v3), some (.int (i3 + 1))]) (st' := []) (h' := h) (P := True) 1 rfl rfl trivial ?_
      refine wp_J (j := 4) (st' := []) rfl rfl ?_
      exact H 
    refine wp_br (P := True) (c := ¬ (mx_i h (a + 11) i3.toNatClampNeg) = i1) (t := 20) (st' := []) rfl rfl trivial (fun c4 => ?_) (fun c4 => ?_)
    · skip
      exact J _ (by rw [if_neg c4])
    · have c4 := Decidable.of_not_not c4
      refine wp_steps (i' := 20) (ls' := [some (.ref (a + 7)), some (.int i1), some (.int (i2 ||| ((1 : Int32) <<< (i3 &&& 31)))), some (.int i3)]) (st' := []) (h' := h) (P := True) 6 rfl rfl trivial ?_
      exact J _ (by rw [if_pos c4])
def F_75_4 (h : mxH) (a : Nat) (i1 : Int32) (z : Nat) (s : Int32) : Int32 := ((if (mx_i h (a + 11) (nI z).toNatClampNeg) = i1 then (s ||| ((1 : Int32) <<< ((nI z) &&& 31))) else s) : Int32)
theorem lp_75_4 {d : Nat} {h : mxH} {Q : mxO → mxH → Prop} {a : Nat} {i1 : Int32} {s0 : Int32} {n : Nat} (z0 : Nat) (G : mxG h) (hVa : (mxT a).1 = 9) (hB : (mx_i h (a + 7) 0) = nI n) (hn : n < 2147483648) (hz : z0 ≤ n) (ob : ∀ z, z0 ≤ z → z < n → (vp_in (nI z) 10 ∧ True)) (k : Q (.inl (some (.int (fz (F_75_4 h a i1) z0 n s0)))) h) : H_75_4 d h a i1 s0 (nI z0) Q := by
  have L : ∀ (j z : Nat), z0 ≤ z → z + j = n → H_75_4 d h a i1 (fz (F_75_4 h a i1) z0 z s0) (nI z) Q := by
    intro j
    induction j with
    | zero =>
      intro z hz0 hzn
      have hzn : z = n := by omega
      subst hzn
      refine tr_75_4 G hVa ⟨fun c9 => absurd (hB ▸ c9) Int32.lt_irrefl, fun c9 => k⟩
    | succ j ih =>
      intro z hz0 hzn
      have hih := ih (z + 1) (by omega) (by omega)
      rw [nI_succ, fz_s hz0] at hih
      have hob := ob z hz0 (by omega)
      refine tr_75_4 G hVa ⟨fun c9 => ?_, fun c9 => absurd (hB.symm ▸ nI_lt (by omega) hn) c9⟩
      obtain ⟨q0, hob⟩ := hob
      refine ⟨q0, ?_⟩
      intro v3 ev3
      subst ev3
      exact hih
  have L0 := L (n - z0) z0 (Nat.le_refl _) (by omega)
  simp only [fz_0] at L0
  exact L0
def V_75 (h : mxH) (a : Nat) (i1 : Int32) : Int32 := (fo (F_75_4 h a i1) ((mx_i h (a + 7) 0)).toNatClampNeg 0)
theorem sp_75 {d : Nat} {h : mxH} {Q : mxO → mxH → Prop} {a : Nat} {i1 : Int32} (G : mxG h) (hVa : (mxT a).1 = 9) (hcb : cB (mx_i h (a + 7) 0) 10) (k : Q (.inl (some (.int (V_75 h a i1)))) h) : mx_wp d 75 0 (mx_fr 75 [.ref (a + 7), .int i1]) [] h Q := by
  unfold V_75 at k
  obtain ⟨n, hn, hB⟩ := hcb
  rw [hB, nI_clamp (by omega)] at k
  refine tr_75_0 G hVa ?_
  refine lp_75_4 (s0 := 0) 0 G hVa hB (by omega) (Nat.zero_le _) (fun z _ hz => ⟨vp_in_nI (by omega) (by decide), trivial⟩) ?_
  simp only [fz_fo]
  exact k
/-! 78: StoneBacks$Stones.owedBy(I)I -/
set_option maxRecDepth 8000 in
theorem tr_78_0 {d : Nat} {h : mxH} {Q : mxO → mxH → Prop} {a : Nat} {i1 : Int32} (G : mxG h) (hVa : (mxT a).1 = 9) (H : (cB (mx_i h (a + 7) 0) 10 ∧ Q (.inl (some (.int (V_76 h a (V_73 h a i1))))) h)) : mx_wp (d + 1) 78 0 (mx_fr 78 [.ref (a + 7), .int i1]) [] h Q := by
  show mx_wp (d + 1) 78 0 [some (.ref (a + 7)), some (.int i1)] [] h Q
  refine wp_steps (i' := 3) (ls' := [some (.ref (a + 7)), some (.int i1)]) (st' := [.int i1, .ref (a + 7), .ref (a + 7)]) (h' := h) (P := True) 3 rfl rfl trivial ?_
  obtain ⟨o1, H⟩ := H
  refine wp_call (b := false) (y' := 73) (as := [.ref (a + 7), .int i1]) (rest := [.ref (a + 7)]) (P := ((mxT (a + 7)).1 = mxRc 73 ∧ mxG h)) rfl (by with_unfolding_all rfl) ⟨(congrArg Prod.fst (sV_7 hVa)), G⟩ (Nat.le_of_ble_eq_true rfl) (sp_73 G hVa o1 ?_)
  show mx_wp (d + 1) 78 4 [some (.ref (a + 7)), some (.int i1)] [.int (V_73 h a i1), .ref (a + 7)] h Q
  refine wp_call (b := false) (y' := 76) (as := [.ref (a + 7), .int (V_73 h a i1)]) (rest := []) (P := ((mxT (a + 7)).1 = mxRc 76 ∧ mxG h)) rfl (by with_unfolding_all rfl) ⟨(congrArg Prod.fst (sV_7 hVa)), G⟩ (Nat.le_of_ble_eq_true rfl) (sp_76 G hVa o1 ?_)
  show mx_wp (d + 1) 78 5 [some (.ref (a + 7)), some (.int i1)] [.int (V_76 h a (V_73 h a i1))] h Q
  exact wp_end (o := .inl (some (.int (V_76 h a (V_73 h a i1))))) (h' := h) (P := True) rfl rfl trivial H
def V_78 (h : mxH) (a : Nat) (i1 : Int32) : Int32 := (V_76 h a (V_73 h a i1))
theorem sp_78 {d : Nat} {h : mxH} {Q : mxO → mxH → Prop} {a : Nat} {i1 : Int32} (G : mxG h) (hVa : (mxT a).1 = 9) (x0 : cB (mx_i h (a + 7) 0) 10) (k : Q (.inl (some (.int (V_78 h a i1)))) h) : mx_wp (d + 1) 78 0 (mx_fr 78 [.ref (a + 7), .int i1]) [] h Q := by
  unfold V_78 at k
  have hob : (cB (mx_i h (a + 7) 0) 10 ∧ True) := ⟨x0, trivial⟩
  refine tr_78_0 G hVa ?_
  obtain ⟨q0, hob⟩ := hob
  refine ⟨q0, ?_⟩
  exact k
/-! 79: StoneBacks$Stones.dueTo(I)I -/
def H_79_4 (d : Nat) (h : mxH) (a : Nat) (i1 : Int32) (i2 : Int32) (i3 : Int32) (Q : mxO → mxH → Prop) : Prop := mx_wp d 79 4 [some (.ref (a + 7)), some (.int i1), some (.int i2), some (.int i3)] [] h Q
set_option maxRecDepth 8000 in
theorem tr_79_0 {d : Nat} {h : mxH} {Q : mxO → mxH → Prop} {a : Nat} {i1 : Int32} (G : mxG h) (hVa : (mxT a).1 = 9) (H : H_79_4 d h a i1 0 0 Q) : mx_wp d 79 0 (mx_fr 79 [.ref (a + 7), .int i1]) [] h Q := by
  show mx_wp d 79 0 [some (.ref (a + 7)), some (.int i1), none, none] [] h Q
  refine wp_steps (i' := 4) (ls' := [some (.ref (a + 7)), some (.int i1), some (.int 0), some (.int 0)]) (st' := []) (h' := h) (P := True) 4 rfl rfl trivial ?_
  exact H 
set_option maxRecDepth 8000 in
theorem tr_79_4 {d : Nat} {h : mxH} {Q : mxO → mxH → Prop} {a : Nat} {i1 : Int32} {i2 : Int32} {i3 : Int32} (G : mxG h) (hVa : (mxT a).1 = 9) (H : ((i3 < (mx_i h (a + 7) 0) → (vp_in i3 10 ∧ (∀ (v3 : Int32), v3 = ((if (mx_i h (a + 11) i3.toNatClampNeg) = 2 then i2 else (if (mx_i h (a + 9) i3.toNatClampNeg) = i1 then (i2 + (mx_i h (a + 10) i3.toNatClampNeg)) else i2)) : Int32) → H_79_4 d h a i1 v3 (i3 + 1) Q))) ∧ (¬ i3 < (mx_i h (a + 7) 0) → Q (.inl (some (.int i2))) h))) : H_79_4 d h a i1 i2 i3 Q := by
  show mx_wp d 79 4 [some (.ref (a + 7)), some (.int i1), some (.int i2), some (.int i3)] [] h Q
  refine wp_steps (i' := 7) (ls' := [some (.ref (a + 7)), some (.int i1), some (.int i2), some (.int i3)]) (st' := [.int (mx_i h (a + 7) 0), .int i3]) (h' := h) (P := ((mxT (a + 7)).1 = 7 ∧ mxG h) ∧ True) 3 rfl rfl ⟨⟨(congrArg Prod.fst (sV_7 hVa)), G⟩, trivial⟩ ?_
  refine wp_br (P := True) (c := (mx_i h (a + 7) 0) ≤ i3) (t := 29) (st' := []) rfl rfl trivial (fun c1 => ?_) (fun c1 => ?_)
  · have c1 := Int32.not_lt.mpr c1
    have H := H.2 c1
    refine wp_steps (i' := 30) (ls' := [some (.ref (a + 7)), some (.int i1), some (.int i2), some (.int i3)]) (st' := [.int i2]) (h' := h) (P := True) 1 rfl rfl trivial ?_
    exact wp_end (o := .inl (some (.int i2))) (h' := h) (P := True) rfl rfl trivial H
  · have c1 := Int32.not_le.mp c1
    have H := H.1 c1
    obtain ⟨o2, H⟩ := H
    refine wp_steps (i' := 13) (ls' := [some (.ref (a + 7)), some (.int i1), some (.int i2), some (.int i3)]) (st' := [.int 2, .int (mx_i h (a + 11) i3.toNatClampNeg)]) (h' := h) (P := ((mxT (a + 7)).1 = 7 ∧ mxG h) ∧ (((mxT (a + 11)).1 = 50 ∧ mxG h) ∧ vp_in i3 (mxT (a + 11)).2) ∧ True) 5 rfl rfl ⟨⟨(congrArg Prod.fst (sV_7 hVa)), G⟩, (cA (sV_11 hVa) G o2), trivial⟩ ?_
    have J : ∀ (v3 : Int32) (ev3 : v3 = ((if (mx_i h (a + 11) i3.toNatClampNeg) = 2 then i2 else (if (mx_i h (a + 9) i3.toNatClampNeg) = i1 then (i2 + (mx_i h (a + 10) i3.toNatClampNeg)) else i2)) : Int32)), mx_wp d 79 27 [some (.ref (a + 7)), some (.int i1), some (.int v3), some (.int i3)] [] h Q := by
      intro v3 ev3
      have H := H v3 ev3
      refine wp_steps (i' := 28) (ls' := [some (.ref (a + 7)), some (.int i1), some (.int v3), some (.int (i3 + 1))]) (st' := []) (h' := h) (P := True) 1 rfl rfl trivial ?_
      refine wp_J (j := 4) (st' := []) rfl rfl ?_
      exact H 
    refine wp_br (P := True) (c := (mx_i h (a + 11) i3.toNatClampNeg) = 2) (t := 27) (st' := []) rfl rfl trivial (fun c4 => ?_) (fun c4 => ?_)
    · skip
      exact J _ (by rw [if_pos c4])
    · skip
      refine wp_steps (i' := 19) (ls' := [some (.ref (a + 7)), some (.int i1), some (.int i2), some (.int i3)]) (st' := [.int i1, .int (mx_i h (a + 9) i3.toNatClampNeg)]) (h' := h) (P := ((mxT (a + 7)).1 = 7 ∧ mxG h) ∧ (((mxT (a + 9)).1 = 50 ∧ mxG h) ∧ vp_in i3 (mxT (a + 9)).2) ∧ True) 5 rfl rfl ⟨⟨(congrArg Prod.fst (sV_7 hVa)), G⟩, (cA (sV_9 hVa) G o2), trivial⟩ ?_
      refine wp_br (P := True) (c := ¬ (mx_i h (a + 9) i3.toNatClampNeg) = i1) (t := 27) (st' := []) rfl rfl trivial (fun c5 => ?_) (fun c5 => ?_)
      · skip
        exact J _ (by rw [if_neg c4, if_neg c5])
      · have c5 := Decidable.of_not_not c5
        refine wp_steps (i' := 27) (ls' := [some (.ref (a + 7)), some (.int i1), some (.int (i2 + (mx_i h (a + 10) i3.toNatClampNeg))), some (.int i3)]) (st' := []) (h' := h) (P := ((mxT (a + 7)).1 = 7 ∧ mxG h) ∧ (((mxT (a + 10)).1 = 50 ∧ mxG h) ∧ vp_in i3 (mxT (a + 10)).2) ∧ True) 7 rfl rfl ⟨⟨(congrArg Prod.fst (sV_7 hVa)), G⟩, (cA (sV_10 hVa) G o2), trivial⟩ ?_
        exact J _ (by rw [if_neg c4, if_pos c5])
def F_79_4 (h : mxH) (a : Nat) (i1 : Int32) (z : Nat) (s : Int32) : Int32 := ((if (mx_i h (a + 11) (nI z).toNatClampNeg) = 2 then s else (if (mx_i h (a + 9) (nI z).toNatClampNeg) = i1 then (s + (mx_i h (a + 10) (nI z).toNatClampNeg)) else s)) : Int32)
theorem lp_79_4 {d : Nat} {h : mxH} {Q : mxO → mxH → Prop} {a : Nat} {i1 : Int32} {s0 : Int32} {n : Nat} (z0 : Nat) (G : mxG h) (hVa : (mxT a).1 = 9) (hB : (mx_i h (a + 7) 0) = nI n) (hn : n < 2147483648) (hz : z0 ≤ n) (ob : ∀ z, z0 ≤ z → z < n → (vp_in (nI z) 10 ∧ True)) (k : Q (.inl (some (.int (fz (F_79_4 h a i1) z0 n s0)))) h) : H_79_4 d h a i1 s0 (nI z0) Q := by
  have L : ∀ (j z : Nat), z0 ≤ z → z + j = n → H_79_4 d h a i1 (fz (F_79_4 h a i1) z0 z s0) (nI z) Q := by
    intro j
    induction j with
    | zero =>
      intro z hz0 hzn
      have hzn : z = n := by omega
      subst hzn
      refine tr_79_4 G hVa ⟨fun c9 => absurd (hB ▸ c9) Int32.lt_irrefl, fun c9 => k⟩
    | succ j ih =>
      intro z hz0 hzn
      have hih := ih (z + 1) (by omega) (by omega)
      rw [nI_succ, fz_s hz0] at hih
      have hob := ob z hz0 (by omega)
      refine tr_79_4 G hVa ⟨fun c9 => ?_, fun c9 => absurd (hB.symm ▸ nI_lt (by omega) hn) c9⟩
      obtain ⟨q0, hob⟩ := hob
      refine ⟨q0, ?_⟩
      intro v3 ev3
      subst ev3
      exact hih
  have L0 := L (n - z0) z0 (Nat.le_refl _) (by omega)
  simp only [fz_0] at L0
  exact L0
def V_79 (h : mxH) (a : Nat) (i1 : Int32) : Int32 := (fo (F_79_4 h a i1) ((mx_i h (a + 7) 0)).toNatClampNeg 0)
theorem sp_79 {d : Nat} {h : mxH} {Q : mxO → mxH → Prop} {a : Nat} {i1 : Int32} (G : mxG h) (hVa : (mxT a).1 = 9) (hcb : cB (mx_i h (a + 7) 0) 10) (k : Q (.inl (some (.int (V_79 h a i1)))) h) : mx_wp d 79 0 (mx_fr 79 [.ref (a + 7), .int i1]) [] h Q := by
  unfold V_79 at k
  obtain ⟨n, hn, hB⟩ := hcb
  rw [hB, nI_clamp (by omega)] at k
  refine tr_79_0 G hVa ?_
  refine lp_79_4 (s0 := 0) 0 G hVa hB (by omega) (Nat.zero_le _) (fun z _ hz => ⟨vp_in_nI (by omega) (by decide), trivial⟩) ?_
  simp only [fz_fo]
  exact k
/-! 80: StoneBacks$Stones.weightNotPaid()I -/
set_option maxRecDepth 8000 in
theorem tr_80_0 {d : Nat} {h : mxH} {Q : mxO → mxH → Prop} {a : Nat} (G : mxG h) (hVa : (mxT a).1 = 9) (H : (cB (mx_i h (a + 7) 0) 10 ∧ Q (.inl (some (.int (V_76 h a ((V_75 h a (0 : Int32)) ||| (V_75 h a (1 : Int32))))))) h)) : mx_wp (d + 1) 80 0 (mx_fr 80 [.ref (a + 7)]) [] h Q := by
  show mx_wp (d + 1) 80 0 [some (.ref (a + 7))] [] h Q
  refine wp_steps (i' := 3) (ls' := [some (.ref (a + 7))]) (st' := [.int 0, .ref (a + 7), .ref (a + 7)]) (h' := h) (P := True) 3 rfl rfl trivial ?_
  obtain ⟨o1, H⟩ := H
  refine wp_call (b := false) (y' := 75) (as := [.ref (a + 7), .int 0]) (rest := [.ref (a + 7)]) (P := ((mxT (a + 7)).1 = mxRc 75 ∧ mxG h)) rfl (by with_unfolding_all rfl) ⟨(congrArg Prod.fst (sV_7 hVa)), G⟩ (Nat.le_of_ble_eq_true rfl) (sp_75 G hVa o1 ?_)
  show mx_wp (d + 1) 80 4 [some (.ref (a + 7))] [.int (V_75 h a (0 : Int32)), .ref (a + 7)] h Q
  refine wp_steps (i' := 6) (ls' := [some (.ref (a + 7))]) (st' := [.int 1, .ref (a + 7), .int (V_75 h a (0 : Int32)), .ref (a + 7)]) (h' := h) (P := True) 2 rfl rfl trivial ?_
  refine wp_call (b := false) (y' := 75) (as := [.ref (a + 7), .int 1]) (rest := [.int (V_75 h a (0 : Int32)), .ref (a + 7)]) (P := ((mxT (a + 7)).1 = mxRc 75 ∧ mxG h)) rfl (by with_unfolding_all rfl) ⟨(congrArg Prod.fst (sV_7 hVa)), G⟩ (Nat.le_of_ble_eq_true rfl) (sp_75 G hVa o1 ?_)
  show mx_wp (d + 1) 80 7 [some (.ref (a + 7))] [.int (V_75 h a (1 : Int32)), .int (V_75 h a (0 : Int32)), .ref (a + 7)] h Q
  refine wp_steps (i' := 8) (ls' := [some (.ref (a + 7))]) (st' := [.int ((V_75 h a (0 : Int32)) ||| (V_75 h a (1 : Int32))), .ref (a + 7)]) (h' := h) (P := True) 1 rfl rfl trivial ?_
  refine wp_call (b := false) (y' := 76) (as := [.ref (a + 7), .int ((V_75 h a (0 : Int32)) ||| (V_75 h a (1 : Int32)))]) (rest := []) (P := ((mxT (a + 7)).1 = mxRc 76 ∧ mxG h)) rfl (by with_unfolding_all rfl) ⟨(congrArg Prod.fst (sV_7 hVa)), G⟩ (Nat.le_of_ble_eq_true rfl) (sp_76 G hVa o1 ?_)
  show mx_wp (d + 1) 80 9 [some (.ref (a + 7))] [.int (V_76 h a ((V_75 h a (0 : Int32)) ||| (V_75 h a (1 : Int32))))] h Q
  exact wp_end (o := .inl (some (.int (V_76 h a ((V_75 h a (0 : Int32)) ||| (V_75 h a (1 : Int32))))))) (h' := h) (P := True) rfl rfl trivial H
def V_80 (h : mxH) (a : Nat) : Int32 := (V_76 h a ((V_75 h a (0 : Int32)) ||| (V_75 h a (1 : Int32))))
theorem sp_80 {d : Nat} {h : mxH} {Q : mxO → mxH → Prop} {a : Nat} (G : mxG h) (hVa : (mxT a).1 = 9) (x0 : cB (mx_i h (a + 7) 0) 10) (k : Q (.inl (some (.int (V_80 h a)))) h) : mx_wp (d + 1) 80 0 (mx_fr 80 [.ref (a + 7)]) [] h Q := by
  unfold V_80 at k
  have hob : (cB (mx_i h (a + 7) 0) 10 ∧ True) := ⟨x0, trivial⟩
  refine tr_80_0 G hVa ?_
  obtain ⟨q0, hob⟩ := hob
  refine ⟨q0, ?_⟩
  exact k
/-! 81: StoneBacks$Stones.growGravel()V -/
def H_81_2 (d : Nat) (h : mxH) (a : Nat) (i1 : Int32) (Q : mxO → mxH → Prop) : Prop := mx_wp d 81 2 [some (.ref (a + 7)), some (.int i1)] [] h Q
set_option maxRecDepth 8000 in
theorem tr_81_0 {d : Nat} {h : mxH} {Q : mxO → mxH → Prop} {a : Nat} (G : mxG h) (hVa : (mxT a).1 = 9) (H : H_81_2 d h a 0 Q) : mx_wp d 81 0 (mx_fr 81 [.ref (a + 7)]) [] h Q := by
  show mx_wp d 81 0 [some (.ref (a + 7)), none] [] h Q
  refine wp_steps (i' := 2) (ls' := [some (.ref (a + 7)), some (.int 0)]) (st' := []) (h' := h) (P := True) 2 rfl rfl trivial ?_
  exact H 
set_option maxRecDepth 8000 in
theorem tr_81_2 {d : Nat} {h : mxH} {Q : mxO → mxH → Prop} {a : Nat} {i1 : Int32} (G : mxG h) (hVa : (mxT a).1 = 9) (H : ((i1 < (mx_i h (a + 7) 0) → (vp_in i1 10 ∧ (((mx_i h (a + 11) i1.toNatClampNeg) = 2 → H_81_2 d h a (i1 + 1) Q) ∧ (¬ (mx_i h (a + 11) i1.toNatClampNeg) = 2 → (∀ h4, h4 = mx_wi h (a + 10) i1.toNatClampNeg (if ((mx_i h (a + 10) i1.toNatClampNeg) + 1) < 40 then ((mx_i h (a + 10) i1.toNatClampNeg) + 1) else 40) → H_81_2 d h4 a (i1 + 1) Q))))) ∧ (¬ i1 < (mx_i h (a + 7) 0) → Q (.inl none) h))) : H_81_2 d h a i1 Q := by
  show mx_wp d 81 2 [some (.ref (a + 7)), some (.int i1)] [] h Q
  refine wp_steps (i' := 5) (ls' := [some (.ref (a + 7)), some (.int i1)]) (st' := [.int (mx_i h (a + 7) 0), .int i1]) (h' := h) (P := ((mxT (a + 7)).1 = 7 ∧ mxG h) ∧ True) 3 rfl rfl ⟨⟨(congrArg Prod.fst (sV_7 hVa)), G⟩, trivial⟩ ?_
  refine wp_br (P := True) (c := (mx_i h (a + 7) 0) ≤ i1) (t := 26) (st' := []) rfl rfl trivial (fun c1 => ?_) (fun c1 => ?_)
  · have c1 := Int32.not_lt.mpr c1
    have H := H.2 c1
    exact wp_end (o := .inl none) (h' := h) (P := True) rfl rfl trivial H
  · have c1 := Int32.not_le.mp c1
    have H := H.1 c1
    obtain ⟨o2, H⟩ := H
    refine wp_steps (i' := 11) (ls' := [some (.ref (a + 7)), some (.int i1)]) (st' := [.int 2, .int (mx_i h (a + 11) i1.toNatClampNeg)]) (h' := h) (P := ((mxT (a + 7)).1 = 7 ∧ mxG h) ∧ (((mxT (a + 11)).1 = 50 ∧ mxG h) ∧ vp_in i1 (mxT (a + 11)).2) ∧ True) 5 rfl rfl ⟨⟨(congrArg Prod.fst (sV_7 hVa)), G⟩, (cA (sV_11 hVa) G o2), trivial⟩ ?_
    refine wp_br (P := True) (c := (mx_i h (a + 11) i1.toNatClampNeg) = 2) (t := 24) (st' := []) rfl rfl trivial (fun c3 => ?_) (fun c3 => ?_)
    · skip
      have H := H.1 c3
      refine wp_steps (i' := 25) (ls' := [some (.ref (a + 7)), some (.int (i1 + 1))]) (st' := []) (h' := h) (P := True) 1 rfl rfl trivial ?_
      refine wp_J (j := 2) (st' := []) rfl rfl ?_
      exact H 
    · skip
      have H := H.2 c3
      refine wp_steps (i' := 24) (ls' := [some (.ref (a + 7)), some (.int i1)]) (st' := []) (h' := mx_wi h (a + 10) i1.toNatClampNeg (if ((mx_i h (a + 10) i1.toNatClampNeg) + 1) < 40 then ((mx_i h (a + 10) i1.toNatClampNeg) + 1) else 40)) (P := ((mxT (a + 7)).1 = 7 ∧ mxG h) ∧ ((mxT (a + 7)).1 = 7 ∧ mxG h) ∧ (((mxT (a + 10)).1 = 50 ∧ mxG h) ∧ vp_in i1 (mxT (a + 10)).2) ∧ ((([.int i1, .ref (a + 10)] : List Value).map mx_cat).sum ≤ 8) ∧ (((mxT (a + 10)).1 = 50 ∧ mxG h) ∧ vp_in i1 (mxT (a + 10)).2) ∧ True) 12 rfl rfl ⟨⟨(congrArg Prod.fst (sV_7 hVa)), G⟩, ⟨(congrArg Prod.fst (sV_7 hVa)), G⟩, (cA (sV_10 hVa) G o2), (Nat.le_of_ble_eq_true rfl), (cA (sV_10 hVa) G o2), trivial⟩ ?_
      obtain ⟨h4, e5⟩ : ∃ z9, z9 = mx_wi h (a + 10) i1.toNatClampNeg (if ((mx_i h (a + 10) i1.toNatClampNeg) + 1) < 40 then ((mx_i h (a + 10) i1.toNatClampNeg) + 1) else 40) := ⟨_, rfl⟩
      rw [← e5]
      have H := H h4 e5
      have G6 : mxG h4 := e5 ▸ mxG_wi G
      refine wp_steps (i' := 25) (ls' := [some (.ref (a + 7)), some (.int (i1 + 1))]) (st' := []) (h' := h4) (P := True) 1 rfl rfl trivial ?_
      refine wp_J (j := 2) (st' := []) rfl rfl ?_
      exact H 
def F_81_2 (a : Nat) (z : Nat) (s : mxH) : mxH := (if (mx_i s (a + 11) (nI z).toNatClampNeg) = 2 then s else (mx_wi s (a + 10) (nI z).toNatClampNeg (if ((mx_i s (a + 10) (nI z).toNatClampNeg) + 1) < 40 then ((mx_i s (a + 10) (nI z).toNatClampNeg) + 1) else 40)))
theorem K_81_2 {a : Nat} (z : Nat) (s : mxH) : mxK s ((F_81_2 a) z s) := by
  unfold F_81_2
  (try simp only []); repeat' (first | with_reducible exact mxK_rfl | with_reducible exact mxK_wi | with_reducible exact mxK_wrow | with_reducible refine mxK_ite ?_ ?_ | with_reducible refine mxK_tr ?_ mxK_wi | with_reducible refine mxK_tr ?_ mxK_wrow)
theorem lp_81_2 {d : Nat} {Q : mxO → mxH → Prop} {a : Nat} {s0 : mxH} {n : Nat} (z0 : Nat) (G : mxG s0) (hVa : (mxT a).1 = 9) (hB : ∀ z, z0 ≤ z → z ≤ n → (mx_i (fz (F_81_2 a) z0 z s0) (a + 7) 0) = nI n) (hn : n < 2147483648) (hz : z0 ≤ n) (ob : ∀ z, z0 ≤ z → z < n → (vp_in (nI z) 10 ∧ True)) (k : Q (.inl none) (fz (F_81_2 a) z0 n s0)) : H_81_2 d s0 a (nI z0) Q := by
  have L : ∀ (j z : Nat), z0 ≤ z → z + j = n → H_81_2 d (fz (F_81_2 a) z0 z s0) a (nI z) Q := by
    intro j
    induction j with
    | zero =>
      intro z hz0 hzn
      have hzn : z = n := by omega
      subst hzn
      have Gz : mxG (fz (F_81_2 a) z0 z s0) := mxK_G (mxK_fz (g := fun s => s) (fun z s => K_81_2 z s) z0 z s0) G
      have hBz := hB z hz0 (by omega)
      refine tr_81_2 Gz hVa ⟨fun c9 => absurd (hBz ▸ c9) Int32.lt_irrefl, fun c9 => k⟩
    | succ j ih =>
      intro z hz0 hzn
      have hih := ih (z + 1) (by omega) (by omega)
      rw [nI_succ, fz_s hz0] at hih
      have Gz : mxG (fz (F_81_2 a) z0 z s0) := mxK_G (mxK_fz (g := fun s => s) (fun z s => K_81_2 z s) z0 z s0) G
      have hBz := hB z hz0 (by omega)
      have hob := ob z hz0 (by omega)
      refine tr_81_2 Gz hVa ⟨fun c9 => ?_, fun c9 => absurd (hBz.symm ▸ nI_lt (by omega) hn) c9⟩
      generalize (fz (F_81_2 a) z0 z s0) = s at hih hob hBz Gz ⊢
      unfold F_81_2 at hih
      (try simp only [] at hih)
      obtain ⟨q0, hob⟩ := hob
      refine ⟨q0, ?_⟩
      refine ⟨fun c9 => ?_, fun c9 => ?_⟩
      · try simp only [if_pos c9] at hih
        exact hih
      · try simp only [if_neg c9] at hih
        intro h4 eh4
        subst eh4
        exact hih
  have L0 := L (n - z0) z0 (Nat.le_refl _) (by omega)
  simp only [fz_0] at L0
  exact L0
/-! 82: StoneBacks$Stones.lendersFrom(I)I -/
def H_82_6 (d : Nat) (h : mxH) (a : Nat) (i2 : Int32) (i3 : Int32) (Q : mxO → mxH → Prop) : Prop := ∀ (w1 : Option Value) (w4 : Option Value), mx_wp d 82 6 [some (.ref (a + 7)), w1, some (.int i2), some (.int i3), w4] [] h Q
def H_82_11 (d : Nat) (h : mxH) (a : Nat) (i2 : Int32) (i3 : Int32) (i4 : Int32) (Q : mxO → mxH → Prop) : Prop := ∀ (w1 : Option Value), mx_wp d 82 11 [some (.ref (a + 7)), w1, some (.int i2), some (.int i3), some (.int i4)] [] h Q
set_option maxRecDepth 8000 in
theorem tr_82_0 {d : Nat} {h : mxH} {Q : mxO → mxH → Prop} {a : Nat} {i1 : Int32} (G : mxG h) (hVa : (mxT a).1 = 9) (H : H_82_6 d h a ((1 : Int32) <<< (i1 &&& 31)) 0 Q) : mx_wp d 82 0 (mx_fr 82 [.ref (a + 7), .int i1]) [] h Q := by
  show mx_wp d 82 0 [some (.ref (a + 7)), some (.int i1), none, none, none] [] h Q
  refine wp_steps (i' := 6) (ls' := [some (.ref (a + 7)), some (.int i1), some (.int ((1 : Int32) <<< (i1 &&& 31))), some (.int 0), none]) (st' := []) (h' := h) (P := True) 6 rfl rfl trivial ?_
  exact H _ _
set_option maxRecDepth 8000 in
theorem tr_82_6 {d : Nat} {h : mxH} {Q : mxO → mxH → Prop} {a : Nat} {i2 : Int32} {i3 : Int32} (G : mxG h) (hVa : (mxT a).1 = 9) (H : ((i3 < 6 → H_82_11 d h a i2 i3 0 Q) ∧ (¬ i3 < 6 → Q (.inl (some (.int i2))) h))) : H_82_6 d h a i2 i3 Q := by
  intro w1 w4
  show mx_wp d 82 6 [some (.ref (a + 7)), w1, some (.int i2), some (.int i3), w4] [] h Q
  refine wp_steps (i' := 8) (ls' := [some (.ref (a + 7)), w1, some (.int i2), some (.int i3), w4]) (st' := [.int 6, .int i3]) (h' := h) (P := True) 2 rfl rfl trivial ?_
  refine wp_br (P := True) (c := 6 ≤ i3) (t := 44) (st' := []) rfl rfl trivial (fun c1 => ?_) (fun c1 => ?_)
  · have c1 := Int32.not_lt.mpr c1
    have H := H.2 c1
    refine wp_steps (i' := 45) (ls' := [some (.ref (a + 7)), w1, some (.int i2), some (.int i3), w4]) (st' := [.int i2]) (h' := h) (P := True) 1 rfl rfl trivial ?_
    exact wp_end (o := .inl (some (.int i2))) (h' := h) (P := True) rfl rfl trivial H
  · have c1 := Int32.not_le.mp c1
    have H := H.1 c1
    refine wp_steps (i' := 11) (ls' := [some (.ref (a + 7)), w1, some (.int i2), some (.int i3), some (.int 0)]) (st' := []) (h' := h) (P := True) 2 rfl rfl trivial ?_
    exact H _
set_option maxRecDepth 8000 in
theorem tr_82_11 {d : Nat} {h : mxH} {Q : mxO → mxH → Prop} {a : Nat} {i2 : Int32} {i3 : Int32} {i4 : Int32} (G : mxG h) (hVa : (mxT a).1 = 9) (H : ((i4 < (mx_i h (a + 7) 0) → (vp_in i4 10 ∧ (∀ (v3 : Int32), v3 = ((if (mx_i h (a + 11) i4.toNatClampNeg) = 2 then i2 else (if ((i2 >>> ((mx_i h (a + 8) i4.toNatClampNeg) &&& 31)) &&& 1) = 1 then (i2 ||| ((1 : Int32) <<< ((mx_i h (a + 9) i4.toNatClampNeg) &&& 31))) else i2)) : Int32) → H_82_11 d h a v3 i3 (i4 + 1) Q))) ∧ (¬ i4 < (mx_i h (a + 7) 0) → H_82_6 d h a i2 (i3 + 1) Q))) : H_82_11 d h a i2 i3 i4 Q := by
  intro w1
  show mx_wp d 82 11 [some (.ref (a + 7)), w1, some (.int i2), some (.int i3), some (.int i4)] [] h Q
  refine wp_steps (i' := 14) (ls' := [some (.ref (a + 7)), w1, some (.int i2), some (.int i3), some (.int i4)]) (st' := [.int (mx_i h (a + 7) 0), .int i4]) (h' := h) (P := ((mxT (a + 7)).1 = 7 ∧ mxG h) ∧ True) 3 rfl rfl ⟨⟨(congrArg Prod.fst (sV_7 hVa)), G⟩, trivial⟩ ?_
  refine wp_br (P := True) (c := (mx_i h (a + 7) 0) ≤ i4) (t := 42) (st' := []) rfl rfl trivial (fun c1 => ?_) (fun c1 => ?_)
  · have c1 := Int32.not_lt.mpr c1
    have H := H.2 c1
    refine wp_steps (i' := 43) (ls' := [some (.ref (a + 7)), w1, some (.int i2), some (.int (i3 + 1)), some (.int i4)]) (st' := []) (h' := h) (P := True) 1 rfl rfl trivial ?_
    refine wp_J (j := 6) (st' := []) rfl rfl ?_
    exact H _ _
  · have c1 := Int32.not_le.mp c1
    have H := H.1 c1
    obtain ⟨o2, H⟩ := H
    refine wp_steps (i' := 20) (ls' := [some (.ref (a + 7)), w1, some (.int i2), some (.int i3), some (.int i4)]) (st' := [.int 2, .int (mx_i h (a + 11) i4.toNatClampNeg)]) (h' := h) (P := ((mxT (a + 7)).1 = 7 ∧ mxG h) ∧ (((mxT (a + 11)).1 = 50 ∧ mxG h) ∧ vp_in i4 (mxT (a + 11)).2) ∧ True) 5 rfl rfl ⟨⟨(congrArg Prod.fst (sV_7 hVa)), G⟩, (cA (sV_11 hVa) G o2), trivial⟩ ?_
    have J : ∀ (v3 : Int32) (ev3 : v3 = ((if (mx_i h (a + 11) i4.toNatClampNeg) = 2 then i2 else (if ((i2 >>> ((mx_i h (a + 8) i4.toNatClampNeg) &&& 31)) &&& 1) = 1 then (i2 ||| ((1 : Int32) <<< ((mx_i h (a + 9) i4.toNatClampNeg) &&& 31))) else i2)) : Int32)), mx_wp d 82 40 [some (.ref (a + 7)), w1, some (.int v3), some (.int i3), some (.int i4)] [] h Q := by
      intro v3 ev3
      have H := H v3 ev3
      refine wp_steps (i' := 41) (ls' := [some (.ref (a + 7)), w1, some (.int v3), some (.int i3), some (.int (i4 + 1))]) (st' := []) (h' := h) (P := True) 1 rfl rfl trivial ?_
      refine wp_J (j := 11) (st' := []) rfl rfl ?_
      exact H _
    refine wp_br (P := True) (c := (mx_i h (a + 11) i4.toNatClampNeg) = 2) (t := 40) (st' := []) rfl rfl trivial (fun c4 => ?_) (fun c4 => ?_)
    · skip
      exact J _ (by rw [if_pos c4])
    · skip
      refine wp_steps (i' := 30) (ls' := [some (.ref (a + 7)), w1, some (.int i2), some (.int i3), some (.int i4)]) (st' := [.int 1, .int ((i2 >>> ((mx_i h (a + 8) i4.toNatClampNeg) &&& 31)) &&& 1)]) (h' := h) (P := ((mxT (a + 7)).1 = 7 ∧ mxG h) ∧ (((mxT (a + 8)).1 = 50 ∧ mxG h) ∧ vp_in i4 (mxT (a + 8)).2) ∧ True) 9 rfl rfl ⟨⟨(congrArg Prod.fst (sV_7 hVa)), G⟩, (cA (sV_8 hVa) G o2), trivial⟩ ?_
      refine wp_br (P := True) (c := ¬ ((i2 >>> ((mx_i h (a + 8) i4.toNatClampNeg) &&& 31)) &&& 1) = 1) (t := 40) (st' := []) rfl rfl trivial (fun c5 => ?_) (fun c5 => ?_)
      · skip
        exact J _ (by rw [if_neg c4, if_neg c5])
      · have c5 := Decidable.of_not_not c5
        refine wp_steps (i' := 40) (ls' := [some (.ref (a + 7)), w1, some (.int (i2 ||| ((1 : Int32) <<< ((mx_i h (a + 9) i4.toNatClampNeg) &&& 31)))), some (.int i3), some (.int i4)]) (st' := []) (h' := h) (P := ((mxT (a + 7)).1 = 7 ∧ mxG h) ∧ (((mxT (a + 9)).1 = 50 ∧ mxG h) ∧ vp_in i4 (mxT (a + 9)).2) ∧ True) 9 rfl rfl ⟨⟨(congrArg Prod.fst (sV_7 hVa)), G⟩, (cA (sV_9 hVa) G o2), trivial⟩ ?_
        exact J _ (by rw [if_neg c4, if_pos c5])
def F_82_11 (h : mxH) (a : Nat) (i3 : Int32) (z : Nat) (s : Int32) : Int32 := ((if (mx_i h (a + 11) (nI z).toNatClampNeg) = 2 then s else (if ((s >>> ((mx_i h (a + 8) (nI z).toNatClampNeg) &&& 31)) &&& 1) = 1 then (s ||| ((1 : Int32) <<< ((mx_i h (a + 9) (nI z).toNatClampNeg) &&& 31))) else s)) : Int32)
theorem lp_82_11 {d : Nat} {h : mxH} {Q : mxO → mxH → Prop} {a : Nat} {i3 : Int32} {s0 : Int32} {n : Nat} (z0 : Nat) (G : mxG h) (hVa : (mxT a).1 = 9) (hB : (mx_i h (a + 7) 0) = nI n) (hn : n < 2147483648) (hz : z0 ≤ n) (ob : ∀ z, z0 ≤ z → z < n → (vp_in (nI z) 10 ∧ True)) (k : H_82_6 d h a (fz (F_82_11 h a i3) z0 n s0) (i3 + 1) Q) : H_82_11 d h a s0 i3 (nI z0) Q := by
  have L : ∀ (j z : Nat), z0 ≤ z → z + j = n → H_82_11 d h a (fz (F_82_11 h a i3) z0 z s0) i3 (nI z) Q := by
    intro j
    induction j with
    | zero =>
      intro z hz0 hzn
      have hzn : z = n := by omega
      subst hzn
      refine tr_82_11 G hVa ⟨fun c9 => absurd (hB ▸ c9) Int32.lt_irrefl, fun c9 => k⟩
    | succ j ih =>
      intro z hz0 hzn
      have hih := ih (z + 1) (by omega) (by omega)
      rw [nI_succ, fz_s hz0] at hih
      have hob := ob z hz0 (by omega)
      refine tr_82_11 G hVa ⟨fun c9 => ?_, fun c9 => absurd (hB.symm ▸ nI_lt (by omega) hn) c9⟩
      obtain ⟨q0, hob⟩ := hob
      refine ⟨q0, ?_⟩
      intro v3 ev3
      subst ev3
      exact hih
  have L0 := L (n - z0) z0 (Nat.le_refl _) (by omega)
  simp only [fz_0] at L0
  exact L0
/-! 83: StoneBacks$Stones.heaviestHeap()I -/
def H_83_6 (d : Nat) (h : mxH) (a : Nat) (i1 : Int32) (i2 : Int32) (i3 : Int32) (Q : mxO → mxH → Prop) : Prop := ∀ (w4 : Option Value), mx_wp d 83 6 [some (.ref (a + 7)), some (.int i1), some (.int i2), some (.int i3), w4] [] h Q
set_option maxRecDepth 8000 in
theorem tr_83_0 {d : Nat} {h : mxH} {Q : mxO → mxH → Prop} {a : Nat} (G : mxG h) (hVa : (mxT a).1 = 9) (H : H_83_6 (d + 1) h a (-1) 0 0 Q) : mx_wp (d + 1) 83 0 (mx_fr 83 [.ref (a + 7)]) [] h Q := by
  show mx_wp (d + 1) 83 0 [some (.ref (a + 7)), none, none, none, none] [] h Q
  refine wp_steps (i' := 6) (ls' := [some (.ref (a + 7)), some (.int (-1)), some (.int 0), some (.int 0), none]) (st' := []) (h' := h) (P := True) 6 rfl rfl trivial ?_
  exact H _
set_option maxRecDepth 8000 in
theorem tr_83_6 {d : Nat} {h : mxH} {Q : mxO → mxH → Prop} {a : Nat} {i1 : Int32} {i2 : Int32} {i3 : Int32} (G : mxG h) (hVa : (mxT a).1 = 9) (H : ((i3 < 12 → (cB (mx_i h (a + 7) 0) 10 ∧ (∀ (v3 : Int32), v3 = ((if i2 < (V_76 h a (V_74 h a i3)) then i3 else i1) : Int32) → (∀ (v4 : Int32), v4 = ((if i2 < (V_76 h a (V_74 h a i3)) then (V_76 h a (V_74 h a i3)) else i2) : Int32) → H_83_6 (d + 1) h a v3 v4 (i3 + 1) Q)))) ∧ (¬ i3 < 12 → Q (.inl (some (.int i1))) h))) : H_83_6 (d + 1) h a i1 i2 i3 Q := by
  intro w4
  show mx_wp (d + 1) 83 6 [some (.ref (a + 7)), some (.int i1), some (.int i2), some (.int i3), w4] [] h Q
  refine wp_steps (i' := 8) (ls' := [some (.ref (a + 7)), some (.int i1), some (.int i2), some (.int i3), w4]) (st' := [.int 12, .int i3]) (h' := h) (P := True) 2 rfl rfl trivial ?_
  refine wp_br (P := True) (c := 12 ≤ i3) (t := 24) (st' := []) rfl rfl trivial (fun c1 => ?_) (fun c1 => ?_)
  · have c1 := Int32.not_lt.mpr c1
    have H := H.2 c1
    refine wp_steps (i' := 25) (ls' := [some (.ref (a + 7)), some (.int i1), some (.int i2), some (.int i3), w4]) (st' := [.int i1]) (h' := h) (P := True) 1 rfl rfl trivial ?_
    exact wp_end (o := .inl (some (.int i1))) (h' := h) (P := True) rfl rfl trivial H
  · have c1 := Int32.not_le.mp c1
    have H := H.1 c1
    refine wp_steps (i' := 12) (ls' := [some (.ref (a + 7)), some (.int i1), some (.int i2), some (.int i3), w4]) (st' := [.int i3, .ref (a + 7), .ref (a + 7)]) (h' := h) (P := True) 3 rfl rfl trivial ?_
    obtain ⟨o2, H⟩ := H
    refine wp_call (b := false) (y' := 74) (as := [.ref (a + 7), .int i3]) (rest := [.ref (a + 7)]) (P := ((mxT (a + 7)).1 = mxRc 74 ∧ mxG h)) rfl (by with_unfolding_all rfl) ⟨(congrArg Prod.fst (sV_7 hVa)), G⟩ (Nat.le_of_ble_eq_true rfl) (sp_74 G hVa o2 ?_)
    show mx_wp (d + 1) 83 13 [some (.ref (a + 7)), some (.int i1), some (.int i2), some (.int i3), w4] [.int (V_74 h a i3), .ref (a + 7)] h Q
    refine wp_call (b := false) (y' := 76) (as := [.ref (a + 7), .int (V_74 h a i3)]) (rest := []) (P := ((mxT (a + 7)).1 = mxRc 76 ∧ mxG h)) rfl (by with_unfolding_all rfl) ⟨(congrArg Prod.fst (sV_7 hVa)), G⟩ (Nat.le_of_ble_eq_true rfl) (sp_76 G hVa o2 ?_)
    show mx_wp (d + 1) 83 14 [some (.ref (a + 7)), some (.int i1), some (.int i2), some (.int i3), w4] [.int (V_76 h a (V_74 h a i3))] h Q
    refine wp_steps (i' := 17) (ls' := [some (.ref (a + 7)), some (.int i1), some (.int i2), some (.int i3), some (.int (V_76 h a (V_74 h a i3)))]) (st' := [.int i2, .int (V_76 h a (V_74 h a i3))]) (h' := h) (P := True) 3 rfl rfl trivial ?_
    have J : ∀ (v3 : Int32) (v4 : Int32) (ev3 : v3 = ((if i2 < (V_76 h a (V_74 h a i3)) then i3 else i1) : Int32)) (ev4 : v4 = ((if i2 < (V_76 h a (V_74 h a i3)) then (V_76 h a (V_74 h a i3)) else i2) : Int32)), mx_wp (d + 1) 83 22 [some (.ref (a + 7)), some (.int v3), some (.int v4), some (.int i3), some (.int (V_76 h a (V_74 h a i3)))] [] h Q := by
      intro v3 v4 ev3 ev4
      have H := H v3 ev3 v4 ev4
      refine wp_steps (i' := 23) (ls' := [some (.ref (a + 7)), some (.int v3), some (.int v4), some (.int (i3 + 1)), some (.int (V_76 h a (V_74 h a i3)))]) (st' := []) (h' := h) (P := True) 1 rfl rfl trivial ?_
      refine wp_J (j := 6) (st' := []) rfl rfl ?_
      exact H _
    refine wp_br (P := True) (c := (V_76 h a (V_74 h a i3)) ≤ i2) (t := 22) (st' := []) rfl rfl trivial (fun c5 => ?_) (fun c5 => ?_)
    · have c5 := Int32.not_lt.mpr c5
      exact J _ _ (by rw [if_neg c5]) (by rw [if_neg c5])
    · have c5 := Int32.not_le.mp c5
      refine wp_steps (i' := 22) (ls' := [some (.ref (a + 7)), some (.int i3), some (.int (V_76 h a (V_74 h a i3))), some (.int i3), some (.int (V_76 h a (V_74 h a i3)))]) (st' := []) (h' := h) (P := True) 4 rfl rfl trivial ?_
      exact J _ _ (by rw [if_pos c5]) (by rw [if_pos c5])
def F_83_6 (h : mxH) (a : Nat) (z : Nat) (s : (Int32 × Int32)) : (Int32 × Int32) := (((if s.2 < (V_76 h a (V_74 h a (nI z))) then (nI z) else s.1) : Int32), ((if s.2 < (V_76 h a (V_74 h a (nI z))) then (V_76 h a (V_74 h a (nI z))) else s.2) : Int32))
theorem lp_83_6 {d : Nat} {h : mxH} {Q : mxO → mxH → Prop} {a : Nat} {s0 : (Int32 × Int32)} {n : Nat} (z0 : Nat) (G : mxG h) (hVa : (mxT a).1 = 9) (hB : (12 : Int32) = nI n) (hn : n < 2147483648) (hz : z0 ≤ n) (ob : ∀ z, z0 ≤ z → z < n → (cB (mx_i h (a + 7) 0) 10 ∧ True)) (k : Q (.inl (some (.int (fz (F_83_6 h a) z0 n s0).1))) h) : H_83_6 (d + 1) h a s0.1 s0.2 (nI z0) Q := by
  have L : ∀ (j z : Nat), z0 ≤ z → z + j = n → H_83_6 (d + 1) h a (fz (F_83_6 h a) z0 z s0).1 (fz (F_83_6 h a) z0 z s0).2 (nI z) Q := by
    intro j
    induction j with
    | zero =>
      intro z hz0 hzn
      have hzn : z = n := by omega
      subst hzn
      refine tr_83_6 G hVa ⟨fun c9 => absurd (hB ▸ c9) Int32.lt_irrefl, fun c9 => k⟩
    | succ j ih =>
      intro z hz0 hzn
      have hih := ih (z + 1) (by omega) (by omega)
      rw [nI_succ, fz_s hz0] at hih
      have hob := ob z hz0 (by omega)
      refine tr_83_6 G hVa ⟨fun c9 => ?_, fun c9 => absurd (hB.symm ▸ nI_lt (by omega) hn) c9⟩
      obtain ⟨q0, hob⟩ := hob
      refine ⟨q0, ?_⟩
      intro v3 ev3
      subst ev3
      intro v4 ev4
      subst ev4
      exact hih
  have L0 := L (n - z0) z0 (Nat.le_refl _) (by omega)
  simp only [fz_0] at L0
  exact L0
def V_83 (h : mxH) (a : Nat) : Int32 := (fo (F_83_6 h a) 12 ((-1), 0)).1
theorem sp_83 {d : Nat} {h : mxH} {Q : mxO → mxH → Prop} {a : Nat} (G : mxG h) (hVa : (mxT a).1 = 9) (x0 : cB (mx_i h (a + 7) 0) 10) (k : Q (.inl (some (.int (V_83 h a)))) h) : mx_wp (d + 1) 83 0 (mx_fr 83 [.ref (a + 7)]) [] h Q := by
  unfold V_83 at k
  obtain ⟨n, hn, hB, hn2⟩ : ∃ n : Nat, n ≤ 12 ∧ (12 : Int32) = nI n ∧ n = 12 := ⟨12, Nat.le_refl _, rfl, rfl⟩
  rw [← hn2] at k
  refine tr_83_0 G hVa ?_
  refine lp_83_6 (s0 := ((-1), 0)) 0 G hVa hB (by omega) (Nat.zero_le _) (fun z _ hz => ⟨x0, trivial⟩) ?_
  simp only [fz_fo]
  exact k
/-! 85: StoneBacks$Tape.hasRoomForTwenty()Z -/
set_option maxRecDepth 8000 in
theorem tr_85_0 {d : Nat} {h : mxH} {Q : mxO → mxH → Prop}  (G : mxG h)  (H : (∀ (v1 : Int32), v1 = ((if 400 < ((mx_i h 101 1) + 20) then 0 else 1) : Int32) → Q (.inl (some (.int v1))) h)) : mx_wp d 85 0 (mx_fr 85 [.ref 101]) [] h Q := by
  show mx_wp d 85 0 [some (.ref 101)] [] h Q
  refine wp_steps (i' := 5) (ls' := [some (.ref 101)]) (st' := [.int 400, .int ((mx_i h 101 1) + 20)]) (h' := h) (P := ((mxT 101).1 = 8 ∧ mxG h) ∧ True) 5 rfl rfl ⟨⟨(congrArg Prod.fst sT_101), G⟩, trivial⟩ ?_
  have J : ∀ (v1 : Int32) (ev1 : v1 = ((if 400 < ((mx_i h 101 1) + 20) then 0 else 1) : Int32)), mx_wp d 85 9 [some (.ref 101)] [.int v1] h Q := by
    intro v1 ev1
    have H := H v1 ev1
    exact wp_end (o := .inl (some (.int v1))) (h' := h) (P := (v1 = 0 ∨ v1 = 1)) rfl rfl (b01 ev1 (by repeat' (first | exact Or.inl rfl | exact Or.inr rfl | split))) H
  refine wp_br (P := True) (c := 400 < ((mx_i h 101 1) + 20)) (t := 8) (st' := []) rfl rfl trivial (fun c2 => ?_) (fun c2 => ?_)
  · skip
    refine wp_steps (i' := 9) (ls' := [some (.ref 101)]) (st' := [.int 0]) (h' := h) (P := True) 1 rfl rfl trivial ?_
    exact J _ (by rw [if_pos c2])
  · skip
    refine wp_steps (i' := 7) (ls' := [some (.ref 101)]) (st' := [.int 1]) (h' := h) (P := True) 1 rfl rfl trivial ?_
    refine wp_J (j := 9) (st' := [.int 1]) rfl rfl ?_
    exact J _ (by rw [if_neg c2])
def V_85 (h : mxH) : Int32 := ((if 400 < ((mx_i h 101 1) + 20) then 0 else 1) : Int32)
theorem sp_85 {d : Nat} {h : mxH} {Q : mxO → mxH → Prop}  (G : mxG h)  (k : Q (.inl (some (.int (V_85 h)))) h) : mx_wp d 85 0 (mx_fr 85 [.ref 101]) [] h Q := by
  unfold V_85 at k
  refine tr_85_0 G  ?_
  intro v1 ev1
  subst ev1
  exact k
/-! 86: StoneBacks$Tape.addNumber(I)V -/
def H_86_2 (d : Nat) (h : mxH) (i1 : Int32) (i2 : Int32) (Q : mxO → mxH → Prop) : Prop := mx_wp d 86 2 [some (.ref 101), some (.int i1), some (.int i2)] [] h Q
set_option maxRecDepth 8000 in
theorem tr_86_0 {d : Nat} {h : mxH} {Q : mxO → mxH → Prop} {i1 : Int32} (G : mxG h)  (H : H_86_2 d h i1 24 Q) : mx_wp d 86 0 (mx_fr 86 [.ref 101, .int i1]) [] h Q := by
  show mx_wp d 86 0 [some (.ref 101), some (.int i1), none] [] h Q
  refine wp_steps (i' := 2) (ls' := [some (.ref 101), some (.int i1), some (.int 24)]) (st' := []) (h' := h) (P := True) 2 rfl rfl trivial ?_
  exact H 
set_option maxRecDepth 8000 in
theorem tr_86_2 {d : Nat} {h : mxH} {Q : mxO → mxH → Prop}  {i1 : Int32} {i2 : Int32} (G : mxG h)  (H : ((i2 < 0 → Q (.inl none) h) ∧ (¬ i2 < 0 → (((mx_i h 101 1) < 400 → (vp_in (mx_i h 101 1) 400 ∧ (∀ h4, h4 = mx_wi h 102 (mx_i h 101 1).toNatClampNeg (((i1 >>> (i2 &&& 31)).toInt8.toInt32).toInt8.toInt32) → (∀ h7, h7 = mx_wi h4 101 1 ((mx_i h4 101 1) + 1) → H_86_2 d h7 i1 (i2 + (-8)) Q)))) ∧ (¬ (mx_i h 101 1) < 400 → H_86_2 d h i1 (i2 + (-8)) Q))))) : H_86_2 d h i1 i2 Q := by
  show mx_wp d 86 2 [some (.ref 101), some (.int i1), some (.int i2)] [] h Q
  refine wp_steps (i' := 3) (ls' := [some (.ref 101), some (.int i1), some (.int i2)]) (st' := [.int i2]) (h' := h) (P := True) 1 rfl rfl trivial ?_
  refine wp_br (P := True) (c := i2 < 0) (t := 25) (st' := []) rfl rfl trivial (fun c1 => ?_) (fun c1 => ?_)
  · skip
    have H := H.1 c1
    exact wp_end (o := .inl none) (h' := h) (P := True) rfl rfl trivial H
  · skip
    have H := H.2 c1
    refine wp_steps (i' := 7) (ls' := [some (.ref 101), some (.int i1), some (.int i2)]) (st' := [.int 400, .int (mx_i h 101 1)]) (h' := h) (P := ((mxT 101).1 = 8 ∧ mxG h) ∧ True) 3 rfl rfl ⟨⟨(congrArg Prod.fst sT_101), G⟩, trivial⟩ ?_
    refine wp_br (P := True) (c := 400 ≤ (mx_i h 101 1)) (t := 23) (st' := []) rfl rfl trivial (fun c2 => ?_) (fun c2 => ?_)
    · have c2 := Int32.not_lt.mpr c2
      have H := H.2 c2
      refine wp_steps (i' := 24) (ls' := [some (.ref 101), some (.int i1), some (.int (i2 + (-8)))]) (st' := []) (h' := h) (P := True) 1 rfl rfl trivial ?_
      refine wp_J (j := 2) (st' := []) rfl rfl ?_
      exact H 
    · have c2 := Int32.not_le.mp c2
      have H := H.1 c2
      obtain ⟨o3, H⟩ := H
      refine wp_steps (i' := 17) (ls' := [some (.ref 101), some (.int i1), some (.int i2)]) (st' := []) (h' := mx_wi h 102 (mx_i h 101 1).toNatClampNeg (((i1 >>> (i2 &&& 31)).toInt8.toInt32).toInt8.toInt32)) (P := ((mxT 101).1 = 8 ∧ mxG h) ∧ ((mxT 101).1 = 8 ∧ mxG h) ∧ (((mxT 102).1 = 51 ∧ mxG h) ∧ vp_in (mx_i h 101 1) (mxT 102).2) ∧ True) 9 rfl rfl ⟨⟨(congrArg Prod.fst sT_101), G⟩, ⟨(congrArg Prod.fst sT_101), G⟩, (cA sT_102 G o3), trivial⟩ ?_
      obtain ⟨h4, e5⟩ : ∃ z9, z9 = mx_wi h 102 (mx_i h 101 1).toNatClampNeg (((i1 >>> (i2 &&& 31)).toInt8.toInt32).toInt8.toInt32) := ⟨_, rfl⟩
      rw [← e5]
      have H := H h4 e5
      have G6 : mxG h4 := e5 ▸ mxG_wi G
      refine wp_steps (i' := 23) (ls' := [some (.ref 101), some (.int i1), some (.int i2)]) (st' := []) (h' := mx_wi h4 101 1 ((mx_i h4 101 1) + 1)) (P := ((mxT 101).1 = 8 ∧ mxG h4) ∧ ((mxT 101).1 = 8 ∧ mxG h4) ∧ True) 6 rfl rfl ⟨⟨(congrArg Prod.fst sT_101), G6⟩, ⟨(congrArg Prod.fst sT_101), G6⟩, trivial⟩ ?_
      obtain ⟨h7, e8⟩ : ∃ z9, z9 = mx_wi h4 101 1 ((mx_i h4 101 1) + 1) := ⟨_, rfl⟩
      rw [← e8]
      have H := H h7 e8
      have G9 : mxG h7 := e8 ▸ mxG_wi G6
      refine wp_steps (i' := 24) (ls' := [some (.ref 101), some (.int i1), some (.int (i2 + (-8)))]) (st' := []) (h' := h7) (P := True) 1 rfl rfl trivial ?_
      refine wp_J (j := 2) (st' := []) rfl rfl ?_
      exact H 
/-! 89: StoneBacks$Tape.kindOf(B)I -/
set_option maxRecDepth 8000 in
theorem tr_89_0 {d : Nat} {h : mxH} {Q : mxO → mxH → Prop} {i0 : Int32} (G : mxG h)  (H : ((i0 = 32 → Q (.inl (some (.int 0))) h) ∧ (¬ i0 = 32 → ((i0 < 48 → (∀ (v3 : Int32), v3 = ((if i0 < 97 then 1 else (if 122 < i0 then 1 else 3)) : Int32) → Q (.inl (some (.int v3))) h)) ∧ (¬ i0 < 48 → ((57 < i0 → (∀ (v7 : Int32), v7 = ((if i0 < 97 then 1 else (if 122 < i0 then 1 else 3)) : Int32) → Q (.inl (some (.int v7))) h)) ∧ (¬ 57 < i0 → Q (.inl (some (.int 2))) h))))))) : mx_wp d 89 0 (mx_fr 89 [.int i0]) [] h Q := by
  show mx_wp d 89 0 [some (.int i0)] [] h Q
  refine wp_steps (i' := 2) (ls' := [some (.int i0)]) (st' := [.int 32, .int i0]) (h' := h) (P := True) 2 rfl rfl trivial ?_
  refine wp_br (P := True) (c := ¬ i0 = 32) (t := 5) (st' := []) rfl rfl trivial (fun c1 => ?_) (fun c1 => ?_)
  · skip
    have H := H.2 c1
    refine wp_steps (i' := 7) (ls' := [some (.int i0)]) (st' := [.int 48, .int i0]) (h' := h) (P := True) 2 rfl rfl trivial ?_
    refine wp_br (P := True) (c := i0 < 48) (t := 13) (st' := []) rfl rfl trivial (fun c2 => ?_) (fun c2 => ?_)
    · skip
      have H := H.1 c2
      refine wp_steps (i' := 15) (ls' := [some (.int i0)]) (st' := [.int 97, .int i0]) (h' := h) (P := True) 2 rfl rfl trivial ?_
      have J : ∀ (v3 : Int32) (ev3 : v3 = ((if i0 < 97 then 1 else (if 122 < i0 then 1 else 3)) : Int32)), mx_wp d 89 22 [some (.int i0)] [.int v3] h Q := by
        intro v3 ev3
        have H := H v3 ev3
        exact wp_end (o := .inl (some (.int v3))) (h' := h) (P := True) rfl rfl trivial H
      refine wp_br (P := True) (c := i0 < 97) (t := 21) (st' := []) rfl rfl trivial (fun c4 => ?_) (fun c4 => ?_)
      · skip
        refine wp_steps (i' := 22) (ls' := [some (.int i0)]) (st' := [.int 1]) (h' := h) (P := True) 1 rfl rfl trivial ?_
        exact J _ (by rw [if_pos c4])
      · skip
        refine wp_steps (i' := 18) (ls' := [some (.int i0)]) (st' := [.int 122, .int i0]) (h' := h) (P := True) 2 rfl rfl trivial ?_
        refine wp_br (P := True) (c := 122 < i0) (t := 21) (st' := []) rfl rfl trivial (fun c5 => ?_) (fun c5 => ?_)
        · skip
          refine wp_steps (i' := 22) (ls' := [some (.int i0)]) (st' := [.int 1]) (h' := h) (P := True) 1 rfl rfl trivial ?_
          exact J _ (by rw [if_neg c4, if_pos c5])
        · skip
          refine wp_steps (i' := 20) (ls' := [some (.int i0)]) (st' := [.int 3]) (h' := h) (P := True) 1 rfl rfl trivial ?_
          refine wp_J (j := 22) (st' := [.int 3]) rfl rfl ?_
          exact J _ (by rw [if_neg c4, if_neg c5])
    · skip
      have H := H.2 c2
      refine wp_steps (i' := 10) (ls' := [some (.int i0)]) (st' := [.int 57, .int i0]) (h' := h) (P := True) 2 rfl rfl trivial ?_
      refine wp_br (P := True) (c := 57 < i0) (t := 13) (st' := []) rfl rfl trivial (fun c6 => ?_) (fun c6 => ?_)
      · skip
        have H := H.1 c6
        refine wp_steps (i' := 15) (ls' := [some (.int i0)]) (st' := [.int 97, .int i0]) (h' := h) (P := True) 2 rfl rfl trivial ?_
        have J : ∀ (v7 : Int32) (ev7 : v7 = ((if i0 < 97 then 1 else (if 122 < i0 then 1 else 3)) : Int32)), mx_wp d 89 22 [some (.int i0)] [.int v7] h Q := by
          intro v7 ev7
          have H := H v7 ev7
          exact wp_end (o := .inl (some (.int v7))) (h' := h) (P := True) rfl rfl trivial H
        refine wp_br (P := True) (c := i0 < 97) (t := 21) (st' := []) rfl rfl trivial (fun c8 => ?_) (fun c8 => ?_)
        · skip
          refine wp_steps (i' := 22) (ls' := [some (.int i0)]) (st' := [.int 1]) (h' := h) (P := True) 1 rfl rfl trivial ?_
          exact J _ (by rw [if_pos c8])
        · skip
          refine wp_steps (i' := 18) (ls' := [some (.int i0)]) (st' := [.int 122, .int i0]) (h' := h) (P := True) 2 rfl rfl trivial ?_
          refine wp_br (P := True) (c := 122 < i0) (t := 21) (st' := []) rfl rfl trivial (fun c9 => ?_) (fun c9 => ?_)
          · skip
            refine wp_steps (i' := 22) (ls' := [some (.int i0)]) (st' := [.int 1]) (h' := h) (P := True) 1 rfl rfl trivial ?_
            exact J _ (by rw [if_neg c8, if_pos c9])
          · skip
            refine wp_steps (i' := 20) (ls' := [some (.int i0)]) (st' := [.int 3]) (h' := h) (P := True) 1 rfl rfl trivial ?_
            refine wp_J (j := 22) (st' := [.int 3]) rfl rfl ?_
            exact J _ (by rw [if_neg c8, if_neg c9])
      · skip
        have H := H.2 c6
        refine wp_steps (i' := 12) (ls' := [some (.int i0)]) (st' := [.int 2]) (h' := h) (P := True) 1 rfl rfl trivial ?_
        exact wp_end (o := .inl (some (.int 2))) (h' := h) (P := True) rfl rfl trivial H
  · have c1 := Decidable.of_not_not c1
    have H := H.1 c1
    refine wp_steps (i' := 4) (ls' := [some (.int i0)]) (st' := [.int 0]) (h' := h) (P := True) 1 rfl rfl trivial ?_
    exact wp_end (o := .inl (some (.int 0))) (h' := h) (P := True) rfl rfl trivial H
def V_89 (h : mxH) (i0 : Int32) : Int32 := (if i0 = 32 then 0 else (if i0 < 48 then ((if i0 < 97 then 1 else (if 122 < i0 then 1 else 3)) : Int32) else (if 57 < i0 then ((if i0 < 97 then 1 else (if 122 < i0 then 1 else 3)) : Int32) else 2)))
theorem sp_89 {d : Nat} {h : mxH} {Q : mxO → mxH → Prop} {i0 : Int32} (G : mxG h)  (k : Q (.inl (some (.int (V_89 h i0)))) h) : mx_wp d 89 0 (mx_fr 89 [.int i0]) [] h Q := by
  unfold V_89 at k
  refine tr_89_0 G  ?_
  refine ⟨fun c9 => ?_, fun c9 => ?_⟩
  · try simp only [if_pos c9] at k
    exact k
  · try simp only [if_neg c9] at k
    refine ⟨fun c9 => ?_, fun c9 => ?_⟩
    · try simp only [if_pos c9] at k
      intro v3 ev3
      subst ev3
      exact k
    · try simp only [if_neg c9] at k
      refine ⟨fun c9 => ?_, fun c9 => ?_⟩
      · try simp only [if_pos c9] at k
        intro v7 ev7
        subst ev7
        exact k
      · try simp only [if_neg c9] at k
        exact k
/-! 90: StoneBacks$Tape.addToken(II)V -/
set_option maxRecDepth 8000 in
theorem tr_90_0 {d : Nat} {h : mxH} {Q : mxO → mxH → Prop} {i1 : Int32} {i2 : Int32} (G : mxG h)  (H : (((mx_i h 101 2) < 401 → (vp_in (mx_i h 101 2) 401 ∧ (∀ h3, h3 = mx_wi h 103 (mx_i h 101 2).toNatClampNeg i1 → (vp_in (mx_i h3 101 2) 401 ∧ (∀ h7, h7 = mx_wi h3 104 (mx_i h3 101 2).toNatClampNeg i2 → (vp_in (mx_i h7 101 2) 401 ∧ (∀ h11, h11 = mx_wi h7 105 (mx_i h7 101 2).toNatClampNeg 1 → (∀ h14, h14 = mx_wi h11 101 2 ((mx_i h11 101 2) + 1) → Q (.inl none) h14)))))))) ∧ (¬ (mx_i h 101 2) < 401 → Q (.inl none) h))) : mx_wp d 90 0 (mx_fr 90 [.ref 101, .int i1, .int i2]) [] h Q := by
  show mx_wp d 90 0 [some (.ref 101), some (.int i1), some (.int i2)] [] h Q
  refine wp_steps (i' := 5) (ls' := [some (.ref 101), some (.int i1), some (.int i2)]) (st' := [.int (nI (mxT 103).2), .int (mx_i h 101 2)]) (h' := h) (P := ((mxT 101).1 = 8 ∧ mxG h) ∧ ((mxT 101).1 = 8 ∧ mxG h) ∧ (50 ≤ (mxT 103).1 ∧ mxG h) ∧ True) 5 rfl rfl ⟨⟨(congrArg Prod.fst sT_101), G⟩, ⟨(congrArg Prod.fst sT_101), G⟩, (cL sT_103 (by decide) G), trivial⟩ ?_
  rw [congrArg Prod.snd sT_103]
  change mx_wp d 90 5 [some (.ref 101), some (.int i1), some (.int i2)] [.int 401, .int (mx_i h 101 2)] h Q
  refine wp_br (P := True) (c := 401 ≤ (mx_i h 101 2)) (t := 30) (st' := []) rfl rfl trivial (fun c1 => ?_) (fun c1 => ?_)
  · have c1 := Int32.not_lt.mpr c1
    have H := H.2 c1
    exact wp_end (o := .inl none) (h' := h) (P := True) rfl rfl trivial H
  · have c1 := Int32.not_le.mp c1
    have H := H.1 c1
    obtain ⟨o2, H⟩ := H
    refine wp_steps (i' := 12) (ls' := [some (.ref 101), some (.int i1), some (.int i2)]) (st' := []) (h' := mx_wi h 103 (mx_i h 101 2).toNatClampNeg i1) (P := ((mxT 101).1 = 8 ∧ mxG h) ∧ ((mxT 101).1 = 8 ∧ mxG h) ∧ (((mxT 103).1 = 50 ∧ mxG h) ∧ vp_in (mx_i h 101 2) (mxT 103).2) ∧ True) 6 rfl rfl ⟨⟨(congrArg Prod.fst sT_101), G⟩, ⟨(congrArg Prod.fst sT_101), G⟩, (cA sT_103 G o2), trivial⟩ ?_
    obtain ⟨h3, e4⟩ : ∃ z9, z9 = mx_wi h 103 (mx_i h 101 2).toNatClampNeg i1 := ⟨_, rfl⟩
    rw [← e4]
    have H := H h3 e4
    have G5 : mxG h3 := e4 ▸ mxG_wi G
    obtain ⟨o6, H⟩ := H
    refine wp_steps (i' := 18) (ls' := [some (.ref 101), some (.int i1), some (.int i2)]) (st' := []) (h' := mx_wi h3 104 (mx_i h3 101 2).toNatClampNeg i2) (P := ((mxT 101).1 = 8 ∧ mxG h3) ∧ ((mxT 101).1 = 8 ∧ mxG h3) ∧ (((mxT 104).1 = 50 ∧ mxG h3) ∧ vp_in (mx_i h3 101 2) (mxT 104).2) ∧ True) 6 rfl rfl ⟨⟨(congrArg Prod.fst sT_101), G5⟩, ⟨(congrArg Prod.fst sT_101), G5⟩, (cA sT_104 G5 o6), trivial⟩ ?_
    obtain ⟨h7, e8⟩ : ∃ z9, z9 = mx_wi h3 104 (mx_i h3 101 2).toNatClampNeg i2 := ⟨_, rfl⟩
    rw [← e8]
    have H := H h7 e8
    have G9 : mxG h7 := e8 ▸ mxG_wi G5
    obtain ⟨o10, H⟩ := H
    refine wp_steps (i' := 24) (ls' := [some (.ref 101), some (.int i1), some (.int i2)]) (st' := []) (h' := mx_wi h7 105 (mx_i h7 101 2).toNatClampNeg 1) (P := ((mxT 101).1 = 8 ∧ mxG h7) ∧ ((mxT 101).1 = 8 ∧ mxG h7) ∧ (((mxT 105).1 = 50 ∧ mxG h7) ∧ vp_in (mx_i h7 101 2) (mxT 105).2) ∧ True) 6 rfl rfl ⟨⟨(congrArg Prod.fst sT_101), G9⟩, ⟨(congrArg Prod.fst sT_101), G9⟩, (cA sT_105 G9 o10), trivial⟩ ?_
    obtain ⟨h11, e12⟩ : ∃ z9, z9 = mx_wi h7 105 (mx_i h7 101 2).toNatClampNeg 1 := ⟨_, rfl⟩
    rw [← e12]
    have H := H h11 e12
    have G13 : mxG h11 := e12 ▸ mxG_wi G9
    refine wp_steps (i' := 30) (ls' := [some (.ref 101), some (.int i1), some (.int i2)]) (st' := []) (h' := mx_wi h11 101 2 ((mx_i h11 101 2) + 1)) (P := ((mxT 101).1 = 8 ∧ mxG h11) ∧ ((mxT 101).1 = 8 ∧ mxG h11) ∧ True) 6 rfl rfl ⟨⟨(congrArg Prod.fst sT_101), G13⟩, ⟨(congrArg Prod.fst sT_101), G13⟩, trivial⟩ ?_
    obtain ⟨h14, e15⟩ : ∃ z9, z9 = mx_wi h11 101 2 ((mx_i h11 101 2) + 1) := ⟨_, rfl⟩
    rw [← e15]
    have H := H h14 e15
    have G16 : mxG h14 := e15 ▸ mxG_wi G13
    exact wp_end (o := .inl none) (h' := h14) (P := True) rfl rfl trivial H
def W_90 (h : mxH) (i1 : Int32) (i2 : Int32) : mxH := (if (mx_i h 101 2) < 401 then (mx_wi (mx_wi (mx_wi (mx_wi h 103 (mx_i h 101 2).toNatClampNeg i1) 104 (mx_i (mx_wi h 103 (mx_i h 101 2).toNatClampNeg i1) 101 2).toNatClampNeg i2) 105 (mx_i (mx_wi (mx_wi h 103 (mx_i h 101 2).toNatClampNeg i1) 104 (mx_i (mx_wi h 103 (mx_i h 101 2).toNatClampNeg i1) 101 2).toNatClampNeg i2) 101 2).toNatClampNeg 1) 101 2 ((mx_i (mx_wi (mx_wi (mx_wi h 103 (mx_i h 101 2).toNatClampNeg i1) 104 (mx_i (mx_wi h 103 (mx_i h 101 2).toNatClampNeg i1) 101 2).toNatClampNeg i2) 105 (mx_i (mx_wi (mx_wi h 103 (mx_i h 101 2).toNatClampNeg i1) 104 (mx_i (mx_wi h 103 (mx_i h 101 2).toNatClampNeg i1) 101 2).toNatClampNeg i2) 101 2).toNatClampNeg 1) 101 2) + 1)) else h)
theorem KW_90 {h : mxH} {i1 : Int32} {i2 : Int32} : mxK h (W_90 h i1 i2) := by
  unfold W_90
  repeat' (first | with_reducible exact mxK_rfl | with_reducible exact mxK_wi | with_reducible exact mxK_wrow | with_reducible refine mxK_ite ?_ ?_ | with_reducible refine mxK_tr ?_ mxK_wi | with_reducible refine mxK_tr ?_ mxK_wrow)
theorem sp_90 {d : Nat} {h : mxH} {Q : mxO → mxH → Prop} {i1 : Int32} {i2 : Int32} (G : mxG h)  (x0 : (((mx_i h 101 2) < 401 → (vp_in (mx_i h 101 2) 401 ∧ (vp_in (mx_i (mx_wi h 103 (mx_i h 101 2).toNatClampNeg i1) 101 2) 401 ∧ (vp_in (mx_i (mx_wi (mx_wi h 103 (mx_i h 101 2).toNatClampNeg i1) 104 (mx_i (mx_wi h 103 (mx_i h 101 2).toNatClampNeg i1) 101 2).toNatClampNeg i2) 101 2) 401 ∧ True)))) ∧ (¬ (mx_i h 101 2) < 401 → True))) (k : Q (.inl none) (W_90 h i1 i2)) : mx_wp d 90 0 (mx_fr 90 [.ref 101, .int i1, .int i2]) [] h Q := by
  unfold W_90 at k
  have hob : (((mx_i h 101 2) < 401 → (vp_in (mx_i h 101 2) 401 ∧ (vp_in (mx_i (mx_wi h 103 (mx_i h 101 2).toNatClampNeg i1) 101 2) 401 ∧ (vp_in (mx_i (mx_wi (mx_wi h 103 (mx_i h 101 2).toNatClampNeg i1) 104 (mx_i (mx_wi h 103 (mx_i h 101 2).toNatClampNeg i1) 101 2).toNatClampNeg i2) 101 2) 401 ∧ True)))) ∧ (¬ (mx_i h 101 2) < 401 → True)) := x0
  refine tr_90_0 G  ?_
  refine ⟨fun c9 => ?_, fun c9 => ?_⟩
  · try simp only [if_pos c9] at k
    have hob := hob.1 c9
    obtain ⟨q0, hob⟩ := hob
    refine ⟨q0, ?_⟩
    intro h3 eh3
    subst eh3
    obtain ⟨q0, hob⟩ := hob
    refine ⟨q0, ?_⟩
    intro h7 eh7
    subst eh7
    obtain ⟨q0, hob⟩ := hob
    refine ⟨q0, ?_⟩
    intro h11 eh11
    subst eh11
    intro h14 eh14
    subst eh14
    exact k
  · try simp only [if_neg c9] at k
    have hob := hob.2 c9
    exact k
/-! 309: java/lang/String.coder()B -/
set_option maxRecDepth 8000 in
theorem tr_309_0 {d : Nat} {h : mxH} {Q : mxO → mxH → Prop} {s0 : Nat} (G : mxG h)  (H : ((((1 : Int32) = 0 → True) ∧ (¬ (1 : Int32) = 0 → ((30 ≤ s0 ∧ s0 < 82 ∧ s0 % 2 = 0) ∧ True))) ∧ (∀ (v1 : Int32), v1 = ((if (1 : Int32) = 0 then 1 else 0) : Int32) → ((narrow .byte (.int v1) = .int v1) ∧ Q (.inl (some (.int v1))) h)))) : mx_wp d 309 0 (mx_fr 309 [.ref s0]) [] h Q := by
  show mx_wp d 309 0 [some (.ref s0)] [] h Q
  refine wp_steps (i' := 1) (ls' := [some (.ref s0)]) (st' := [.int 1]) (h' := h) (P := True) 1 rfl rfl trivial ?_
  have J : ∀ (v1 : Int32) (ev1 : v1 = ((if (1 : Int32) = 0 then 1 else 0) : Int32)), mx_wp d 309 6 [some (.ref s0)] [.int v1] h Q := by
    intro v1 ev1
    have H := H.2 v1 ev1
    obtain ⟨o2, H⟩ := H
    exact wp_end (o := .inl (some (.int v1))) (h' := h) (P := (narrow .byte (.int v1) = .int v1)) rfl rfl o2 H
  have H := H.1
  refine wp_br (P := True) (c := (1 : Int32) = 0) (t := 5) (st' := []) rfl rfl trivial (fun c3 => ?_) (fun c3 => ?_)
  · skip
    refine wp_steps (i' := 6) (ls' := [some (.ref s0)]) (st' := [.int 1]) (h' := h) (P := True) 1 rfl rfl trivial ?_
    exact J _ (by rw [if_pos c3])
  · skip
    have H := H.2 c3
    obtain ⟨o4, H⟩ := H
    refine wp_steps (i' := 4) (ls' := [some (.ref s0)]) (st' := [.int 0]) (h' := h) (P := (30 ≤ s0 ∧ s0 < 82 ∧ s0 % 2 = 0) ∧ True) 2 rfl rfl ⟨o4, trivial⟩ ?_
    refine wp_J (j := 6) (st' := [.int 0]) rfl rfl ?_
    exact J _ (by rw [if_neg c3])
def V_309 (h : mxH) (s0 : Nat) : Int32 := ((if (1 : Int32) = 0 then 1 else 0) : Int32)
theorem sp_309 {d : Nat} {h : mxH} {Q : mxO → mxH → Prop} {s0 : Nat} (G : mxG h)  (x0 : (((1 : Int32) = 0 → True) ∧ (¬ (1 : Int32) = 0 → ((30 ≤ s0 ∧ s0 < 82 ∧ s0 % 2 = 0) ∧ True)))) (x1 : (narrow .byte (.int ((if (1 : Int32) = 0 then 1 else 0) : Int32)) = .int ((if (1 : Int32) = 0 then 1 else 0) : Int32))) (k : Q (.inl (some (.int (V_309 h s0)))) h) : mx_wp d 309 0 (mx_fr 309 [.ref s0]) [] h Q := by
  unfold V_309 at k
  have hob : ((((1 : Int32) = 0 → True) ∧ (¬ (1 : Int32) = 0 → ((30 ≤ s0 ∧ s0 < 82 ∧ s0 % 2 = 0) ∧ True))) ∧ ((narrow .byte (.int ((if (1 : Int32) = 0 then 1 else 0) : Int32)) = .int ((if (1 : Int32) = 0 then 1 else 0) : Int32)) ∧ True)) := ⟨x0, ⟨x1, trivial⟩⟩
  refine tr_309_0 G  ?_
  obtain ⟨q0, hob⟩ := hob
  refine ⟨q0, ?_⟩
  intro v1 ev1
  subst ev1
  obtain ⟨q0, hob⟩ := hob
  refine ⟨q0, ?_⟩
  exact k
