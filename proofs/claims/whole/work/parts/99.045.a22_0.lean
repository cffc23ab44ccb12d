/-! 110: StoneBacks$Valley.passHour(LStoneBacks$Law;Z)I -/
def H_110_2 (d : Nat) (h : mxH) (a : Nat) (b : Nat) (i2 : Int32) (i3 : Int32) (Q : mxO → mxH → Prop) : Prop := ∀ (w4 : Option Value), mx_wp d 110 2 [some (.ref a), some (.ref b), some (.int i2), some (.int i3), w4] [] h Q
def H_110_17 (d : Nat) (h : mxH) (a : Nat) (b : Nat) (i2 : Int32) (i3 : Int32) (i4 : Int32) (Q : mxO → mxH → Prop) : Prop := mx_wp d 110 17 [some (.ref a), some (.ref b), some (.int i2), some (.int i3), some (.int i4)] [] h Q
set_option maxRecDepth 8000 in
theorem tr_110_0 {d : Nat} {h : mxH} {Q : mxO → mxH → Prop} {a : Nat} {b : Nat} {i2 : Int32} (G : mxG h) (hVa : (mxT a).1 = 9) (hVb : (mxT b).1 = 3) (H : H_110_2 (d + 4) h a b i2 0 Q) : mx_wp (d + 4) 110 0 (mx_fr 110 [.ref a, .ref b, .int i2]) [] h Q := by
  show mx_wp (d + 4) 110 0 [some (.ref a), some (.ref b), some (.int i2), none, none] [] h Q
  refine wp_steps (i' := 2) (ls' := [some (.ref a), some (.ref b), some (.int i2), some (.int 0), none]) (st' := []) (h' := h) (P := True) 2 rfl rfl trivial ?_
  exact H _
set_option maxRecDepth 8000 in
theorem tr_110_2 {d : Nat} {h : mxH} {Q : mxO → mxH → Prop} {a : Nat} {b : Nat} {i2 : Int32} {i3 : Int32} (G : mxG h) (hVa : (mxT a).1 = 9) (hVb : (mxT b).1 = 3) (H : ((i3 < (mx_i h (a + 1) 0) → (okH h a b i3 ∧ (∀ (h4 : mxH), p111 a i3 b h h4 → H_110_2 (d + 4) h4 a b i2 (i3 + 1) Q))) ∧ (¬ i3 < (mx_i h (a + 1) 0) → H_110_17 (d + 4) h a b i2 0 0 Q))) : H_110_2 (d + 4) h a b i2 i3 Q := by
  intro w4
  show mx_wp (d + 4) 110 2 [some (.ref a), some (.ref b), some (.int i2), some (.int i3), w4] [] h Q
  refine wp_steps (i' := 6) (ls' := [some (.ref a), some (.ref b), some (.int i2), some (.int i3), w4]) (st' := [.int (mx_i h (a + 1) 0), .int i3]) (h' := h) (P := ((mxT a).1 = 9 ∧ mxG h) ∧ ((mxT (a + 1)).1 = 5 ∧ mxG h) ∧ True) 4 rfl rfl ⟨⟨(congrArg Prod.fst (sV_0 hVa)), G⟩, ⟨(congrArg Prod.fst (sV_1 hVa)), G⟩, trivial⟩ ?_
  refine wp_br (P := True) (c := (mx_i h (a + 1) 0) ≤ i3) (t := 13) (st' := []) rfl rfl trivial (fun c1 => ?_) (fun c1 => ?_)
  · have c1 := Int32.not_lt.mpr c1
    have H := H.2 c1
    refine wp_steps (i' := 17) (ls' := [some (.ref a), some (.ref b), some (.int i2), some (.int 0), some (.int 0)]) (st' := []) (h' := h) (P := True) 4 rfl rfl trivial ?_
    exact H 
  · have c1 := Int32.not_le.mp c1
    have H := H.1 c1
    refine wp_steps (i' := 10) (ls' := [some (.ref a), some (.ref b), some (.int i2), some (.int i3), w4]) (st' := [.ref b, .int i3, .ref a]) (h' := h) (P := True) 3 rfl rfl trivial ?_
    obtain ⟨o2, H⟩ := H
    refine wp_call (b := false) (y' := 111) (as := [.ref a, .int i3, .ref b]) (rest := []) (P := ((mxT a).1 = mxRc 111 ∧ mxG h)) rfl (by with_unfolding_all rfl) ⟨(congrArg Prod.fst (sV_0 hVa)), G⟩ (Nat.le_of_ble_eq_true rfl) (sp_111 G hVa hVb o2 ?_)
    intro h4 p5
    show mx_wp (d + 4) 110 11 [some (.ref a), some (.ref b), some (.int i2), some (.int i3), w4] [] h4 Q
    have H := H h4 p5
    have G6 : mxG h4 := mxU_G p5.1 G
    refine wp_steps (i' := 12) (ls' := [some (.ref a), some (.ref b), some (.int i2), some (.int (i3 + 1)), w4]) (st' := []) (h' := h4) (P := True) 1 rfl rfl trivial ?_
    refine wp_J (j := 2) (st' := []) rfl rfl ?_
    exact H _
set_option maxRecDepth 8000 in
theorem tr_110_17 {d : Nat} {h : mxH} {Q : mxO → mxH → Prop} {a : Nat} {b : Nat} {i2 : Int32} {i3 : Int32} {i4 : Int32} (G : mxG h) (hVa : (mxT a).1 = 9) (hVb : (mxT b).1 = 3) (H : ((i4 < (mx_i h (a + 1) 0) → (((V_49 h a i4) = 0 → (okH h a b i4 ∧ (∀ (x9 : Int32) (h10 : mxH), p112 a i4 b i2 h x9 h10 → ((x9 = 0 → H_110_17 (d + 4) h10 a b i2 i3 (i4 + 1) Q) ∧ (¬ x9 = 0 → (∀ h14, h14 = W_50 h10 a i4 → H_110_17 (d + 4) h14 a b i2 (i3 + 1) (i4 + 1) Q)))))) ∧ (¬ (V_49 h a i4) = 0 → H_110_17 (d + 4) h a b i2 i3 (i4 + 1) Q))) ∧ (¬ i4 < (mx_i h (a + 1) 0) → ((∃ (q : (Nat → Int32) × Nat × Nat × Nat), CpN (vw h a) q.1 q.2.1 q.2.2.1 q.2.2.2) ∧ (∀ (h4 : mxH), p114 a h h4 → Q (.inl (some (.int i3))) h4))))) : H_110_17 (d + 4) h a b i2 i3 i4 Q := by
  show mx_wp (d + 4) 110 17 [some (.ref a), some (.ref b), some (.int i2), some (.int i3), some (.int i4)] [] h Q
  refine wp_steps (i' := 21) (ls' := [some (.ref a), some (.ref b), some (.int i2), some (.int i3), some (.int i4)]) (st' := [.int (mx_i h (a + 1) 0), .int i4]) (h' := h) (P := ((mxT a).1 = 9 ∧ mxG h) ∧ ((mxT (a + 1)).1 = 5 ∧ mxG h) ∧ True) 4 rfl rfl ⟨⟨(congrArg Prod.fst (sV_0 hVa)), G⟩, ⟨(congrArg Prod.fst (sV_1 hVa)), G⟩, trivial⟩ ?_
  refine wp_br (P := True) (c := (mx_i h (a + 1) 0) ≤ i4) (t := 40) (st' := []) rfl rfl trivial (fun c1 => ?_) (fun c1 => ?_)
  · have c1 := Int32.not_lt.mpr c1
    have H := H.2 c1
    refine wp_steps (i' := 41) (ls' := [some (.ref a), some (.ref b), some (.int i2), some (.int i3), some (.int i4)]) (st' := [.ref a]) (h' := h) (P := True) 1 rfl rfl trivial ?_
    obtain ⟨o2, H⟩ := H
    refine wp_call (b := false) (y' := 114) (as := [.ref a]) (rest := []) (P := ((mxT a).1 = mxRc 114 ∧ mxG h)) rfl (by with_unfolding_all rfl) ⟨(congrArg Prod.fst (sV_0 hVa)), G⟩ (Nat.le_of_ble_eq_true rfl) (sp_114 G hVa o2 ?_)
    intro h4 p5
    show mx_wp (d + 4) 110 42 [some (.ref a), some (.ref b), some (.int i2), some (.int i3), some (.int i4)] [] h4 Q
    have H := H h4 p5
    have G6 : mxG h4 := mxU_G p5.1 G
    refine wp_steps (i' := 43) (ls' := [some (.ref a), some (.ref b), some (.int i2), some (.int i3), some (.int i4)]) (st' := [.int i3]) (h' := h4) (P := True) 1 rfl rfl trivial ?_
    exact wp_end (o := .inl (some (.int i3))) (h' := h4) (P := True) rfl rfl trivial H
  · have c1 := Int32.not_le.mp c1
    have H := H.1 c1
    refine wp_steps (i' := 25) (ls' := [some (.ref a), some (.ref b), some (.int i2), some (.int i3), some (.int i4)]) (st' := [.int i4, .ref (a + 1)]) (h' := h) (P := ((mxT a).1 = 9 ∧ mxG h) ∧ True) 3 rfl rfl ⟨⟨(congrArg Prod.fst (sV_0 hVa)), G⟩, trivial⟩ ?_
    refine wp_call (b := false) (y' := 49) (as := [.ref (a + 1), .int i4]) (rest := []) (P := ((mxT (a + 1)).1 = mxRc 49 ∧ mxG h)) rfl (by with_unfolding_all rfl) ⟨(congrArg Prod.fst (sV_1 hVa)), G⟩ (Nat.le_of_ble_eq_true rfl) (sp_49 G hVa ?_)
    show mx_wp (d + 4) 110 26 [some (.ref a), some (.ref b), some (.int i2), some (.int i3), some (.int i4)] [.int (V_49 h a i4)] h Q
    refine wp_br (P := True) (c := ¬ (V_49 h a i4) = 0) (t := 38) (st' := []) rfl rfl trivial (fun c7 => ?_) (fun c7 => ?_)
    · skip
      have H := H.2 c7
      refine wp_steps (i' := 39) (ls' := [some (.ref a), some (.ref b), some (.int i2), some (.int i3), some (.int (i4 + 1))]) (st' := []) (h' := h) (P := True) 1 rfl rfl trivial ?_
      refine wp_J (j := 17) (st' := []) rfl rfl ?_
      exact H 
    · have c7 := Decidable.of_not_not c7
      have H := H.1 c7
      refine wp_steps (i' := 31) (ls' := [some (.ref a), some (.ref b), some (.int i2), some (.int i3), some (.int i4)]) (st' := [.int i2, .ref b, .int i4, .ref a]) (h' := h) (P := True) 4 rfl rfl trivial ?_
      obtain ⟨o8, H⟩ := H
      refine wp_call (b := false) (y' := 112) (as := [.ref a, .int i4, .ref b, .int i2]) (rest := []) (P := ((mxT a).1 = mxRc 112 ∧ mxG h)) rfl (by with_unfolding_all rfl) ⟨(congrArg Prod.fst (sV_0 hVa)), G⟩ (Nat.le_of_ble_eq_true rfl) (sp_112 G hVa hVb o8 ?_)
      intro x9 h10 p11
      show mx_wp (d + 4) 110 32 [some (.ref a), some (.ref b), some (.int i2), some (.int i3), some (.int i4)] [.int x9] h10 Q
      have H := H x9 h10 p11
      have G12 : mxG h10 := mxU_G p11.1 G
      refine wp_br (P := True) (c := x9 = 0) (t := 38) (st' := []) rfl rfl trivial (fun c13 => ?_) (fun c13 => ?_)
      · skip
        have H := H.1 c13
        refine wp_steps (i' := 39) (ls' := [some (.ref a), some (.ref b), some (.int i2), some (.int i3), some (.int (i4 + 1))]) (st' := []) (h' := h10) (P := True) 1 rfl rfl trivial ?_
        refine wp_J (j := 17) (st' := []) rfl rfl ?_
        exact H 
      · skip
        have H := H.2 c13
        refine wp_steps (i' := 36) (ls' := [some (.ref a), some (.ref b), some (.int i2), some (.int i3), some (.int i4)]) (st' := [.int i4, .ref (a + 1)]) (h' := h10) (P := ((mxT a).1 = 9 ∧ mxG h10) ∧ True) 3 rfl rfl ⟨⟨(congrArg Prod.fst (sV_0 hVa)), G12⟩, trivial⟩ ?_
        refine wp_call (b := false) (y' := 50) (as := [.ref (a + 1), .int i4]) (rest := []) (P := ((mxT (a + 1)).1 = mxRc 50 ∧ mxG h10)) rfl (by with_unfolding_all rfl) ⟨(congrArg Prod.fst (sV_1 hVa)), G12⟩ (Nat.le_of_ble_eq_true rfl) (sp_50 G12 hVa ?_)
        show mx_wp (d + 4) 110 37 [some (.ref a), some (.ref b), some (.int i2), some (.int i3), some (.int i4)] [] (W_50 h10 a i4) Q
        obtain ⟨h14, e15⟩ : ∃ z9, z9 = W_50 h10 a i4 := ⟨_, rfl⟩
        rw [← e15]
        have H := H h14 e15
        have K17 : mxK h10 h14 := e15 ▸ KW_50
        have G16 : mxG h14 := mxK_G K17 G12
        refine wp_steps (i' := 39) (ls' := [some (.ref a), some (.ref b), some (.int i2), some (.int (i3 + 1)), some (.int (i4 + 1))]) (st' := []) (h' := h14) (P := True) 2 rfl rfl trivial ?_
        refine wp_J (j := 17) (st' := []) rfl rfl ?_
        exact H 
