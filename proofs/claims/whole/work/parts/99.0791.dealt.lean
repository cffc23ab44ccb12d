/-! tree of deal: its own spec is a hypothesis -/
/-! 10: StoneBacks$Choices.deal(II)V -/
def H_10_35 (d : Nat) (h : mxH) (i1 : Int32) (i2 : Int32) (i3 : Int32) (Q : mxO → mxH → Prop) : Prop := mx_wp d 10 35 [some (.ref 109), some (.int i1), some (.int i2), some (.int i3)] [] h Q
set_option maxRecDepth 8000 in
theorem tr_10_0 {d : Nat} {ev : Nat} {h : mxH} {Q : mxO → mxH → Prop} {i1 : Int32} {i2 : Int32} (hs_10 : ∀ {h : mxH} {Q : mxO → mxH → Prop} {i1 i2 : Int32}, mxG h → (∃ q, VDq ev i1 i2 h q) → (∀ (h1 : mxH), pD ev i1 i2 h h1 → Q (.inl none) h1) → mx_wp (d + 7) 10 0 (mx_fr 10 [.ref 109, .int i1, .int i2]) [] h Q) (G : mxG h)  (H : (((mx_i h 109 7) = (-1) → ((i1 < (mx_i h 109 6) → ((i1 < 10 → H_10_35 (d + 8) h i1 i2 0 Q) ∧ (¬ i1 < 10 → (∀ h10, h10 = mx_wi h 109 7 i2 → (∀ h13, h13 = mx_wrow h10 114 (va_cpy (mx_i h10 113) (mx_i h10 114) 0 0 10) → Q (.inl none) h13))))) ∧ (¬ i1 < (mx_i h 109 6) → (∀ h3, h3 = mx_wi h 109 7 i2 → (∀ h6, h6 = mx_wrow h3 114 (va_cpy (mx_i h3 113) (mx_i h3 114) 0 0 10) → Q (.inl none) h6))))) ∧ (¬ (mx_i h 109 7) = (-1) → ((i2 < (mx_i h 109 7) → (((mx_i h 109 8) < (mx_i h 109 7) → ((i1 < (mx_i h 109 6) → ((i1 < 10 → H_10_35 (d + 8) h i1 i2 0 Q) ∧ (¬ i1 < 10 → (∀ h26, h26 = mx_wi h 109 7 i2 → (∀ h29, h29 = mx_wrow h26 114 (va_cpy (mx_i h26 113) (mx_i h26 114) 0 0 10) → Q (.inl none) h29))))) ∧ (¬ i1 < (mx_i h 109 6) → (∀ h19, h19 = mx_wi h 109 7 i2 → (∀ h22, h22 = mx_wrow h19 114 (va_cpy (mx_i h19 113) (mx_i h19 114) 0 0 10) → Q (.inl none) h22))))) ∧ (¬ (mx_i h 109 8) < (mx_i h 109 7) → Q (.inl none) h))) ∧ (¬ i2 < (mx_i h 109 7) → Q (.inl none) h))))) : mx_wp (d + 8) 10 0 (mx_fr 10 [.ref 109, .int i1, .int i2]) [] h Q := by
  show mx_wp (d + 8) 10 0 [some (.ref 109), some (.int i1), some (.int i2), none] [] h Q
  refine wp_steps (i' := 3) (ls' := [some (.ref 109), some (.int i1), some (.int i2), none]) (st' := [.int (-1), .int (mx_i h 109 7)]) (h' := h) (P := ((mxT 109).1 = 2 ∧ mxG h) ∧ True) 3 rfl rfl ⟨⟨(congrArg Prod.fst sT_109), G⟩, trivial⟩ ?_
  refine wp_br (P := True) (c := (mx_i h 109 7) = (-1)) (t := 14) (st' := []) rfl rfl trivial (fun c1 => ?_) (fun c1 => ?_)
  · skip
    have H := H.1 c1
    refine wp_steps (i' := 17) (ls' := [some (.ref 109), some (.int i1), some (.int i2), none]) (st' := [.int (mx_i h 109 6), .int i1]) (h' := h) (P := ((mxT 109).1 = 2 ∧ mxG h) ∧ True) 3 rfl rfl ⟨⟨(congrArg Prod.fst sT_109), G⟩, trivial⟩ ?_
    refine wp_br (P := True) (c := (mx_i h 109 6) ≤ i1) (t := 21) (st' := []) rfl rfl trivial (fun c2 => ?_) (fun c2 => ?_)
    · have c2 := Int32.not_lt.mpr c2
      have H := H.2 c2
      refine wp_steps (i' := 24) (ls' := [some (.ref 109), some (.int i1), some (.int i2), none]) (st' := []) (h' := mx_wi h 109 7 i2) (P := ((mxT 109).1 = 2 ∧ mxG h) ∧ True) 3 rfl rfl ⟨⟨(congrArg Prod.fst sT_109), G⟩, trivial⟩ ?_
      obtain ⟨h3, e4⟩ : ∃ z9, z9 = mx_wi h 109 7 i2 := ⟨_, rfl⟩
      rw [← e4]
      have H := H h3 e4
      have G5 : mxG h3 := e4 ▸ mxG_wi G
      refine wp_steps (i' := 32) (ls' := [some (.ref 109), some (.int i1), some (.int i2), none]) (st' := []) (h' := mx_wrow h3 114 (va_cpy (mx_i h3 113) (mx_i h3 114) 0 0 10)) (P := ((mxT 109).1 = 2 ∧ mxG h3) ∧ ((mxT 109).1 = 2 ∧ mxG h3) ∧ ((((mxT 113).1 = 50 ∧ (mxT 114).1 = 50) ∧ mxG h3) ∧ ¬ (0 : Int32) < 0 ∧ ¬ (0 : Int32) < 0 ∧ ¬ (10 : Int32) < 0 ∧ 0 + 10 ≤ (mxT 113).2 ∧ 0 + 10 ≤ (mxT 114).2 ∧ (([] : List Value).map mx_cat).sum ≤ 8) ∧ True) 8 rfl rfl ⟨⟨(congrArg Prod.fst sT_109), G5⟩, ⟨(congrArg Prod.fst sT_109), G5⟩, (cC sT_113 sT_114 G5 rfl), trivial⟩ ?_
      obtain ⟨h6, e7⟩ : ∃ z9, z9 = mx_wrow h3 114 (va_cpy (mx_i h3 113) (mx_i h3 114) 0 0 10) := ⟨_, rfl⟩
      rw [← e7]
      have H := H h6 e7
      have G8 : mxG h6 := e7 ▸ mxG_wrow G5
      exact wp_end (o := .inl none) (h' := h6) (P := True) rfl rfl trivial H
    · have c2 := Int32.not_le.mp c2
      have H := H.1 c2
      refine wp_steps (i' := 20) (ls' := [some (.ref 109), some (.int i1), some (.int i2), none]) (st' := [.int 10, .int i1]) (h' := h) (P := True) 2 rfl rfl trivial ?_
      refine wp_br (P := True) (c := i1 < 10) (t := 33) (st' := []) rfl rfl trivial (fun c9 => ?_) (fun c9 => ?_)
      · skip
        have H := H.1 c9
        refine wp_steps (i' := 35) (ls' := [some (.ref 109), some (.int i1), some (.int i2), some (.int 0)]) (st' := []) (h' := h) (P := True) 2 rfl rfl trivial ?_
        exact H 
      · skip
        have H := H.2 c9
        refine wp_steps (i' := 24) (ls' := [some (.ref 109), some (.int i1), some (.int i2), none]) (st' := []) (h' := mx_wi h 109 7 i2) (P := ((mxT 109).1 = 2 ∧ mxG h) ∧ True) 3 rfl rfl ⟨⟨(congrArg Prod.fst sT_109), G⟩, trivial⟩ ?_
        obtain ⟨h10, e11⟩ : ∃ z9, z9 = mx_wi h 109 7 i2 := ⟨_, rfl⟩
        rw [← e11]
        have H := H h10 e11
        have G12 : mxG h10 := e11 ▸ mxG_wi G
        refine wp_steps (i' := 32) (ls' := [some (.ref 109), some (.int i1), some (.int i2), none]) (st' := []) (h' := mx_wrow h10 114 (va_cpy (mx_i h10 113) (mx_i h10 114) 0 0 10)) (P := ((mxT 109).1 = 2 ∧ mxG h10) ∧ ((mxT 109).1 = 2 ∧ mxG h10) ∧ ((((mxT 113).1 = 50 ∧ (mxT 114).1 = 50) ∧ mxG h10) ∧ ¬ (0 : Int32) < 0 ∧ ¬ (0 : Int32) < 0 ∧ ¬ (10 : Int32) < 0 ∧ 0 + 10 ≤ (mxT 113).2 ∧ 0 + 10 ≤ (mxT 114).2 ∧ (([] : List Value).map mx_cat).sum ≤ 8) ∧ True) 8 rfl rfl ⟨⟨(congrArg Prod.fst sT_109), G12⟩, ⟨(congrArg Prod.fst sT_109), G12⟩, (cC sT_113 sT_114 G12 rfl), trivial⟩ ?_
        obtain ⟨h13, e14⟩ : ∃ z9, z9 = mx_wrow h10 114 (va_cpy (mx_i h10 113) (mx_i h10 114) 0 0 10) := ⟨_, rfl⟩
        rw [← e14]
        have H := H h13 e14
        have G15 : mxG h13 := e14 ▸ mxG_wrow G12
        exact wp_end (o := .inl none) (h' := h13) (P := True) rfl rfl trivial H
  · skip
    have H := H.2 c1
    refine wp_steps (i' := 7) (ls' := [some (.ref 109), some (.int i1), some (.int i2), none]) (st' := [.int (mx_i h 109 7), .int i2]) (h' := h) (P := ((mxT 109).1 = 2 ∧ mxG h) ∧ True) 3 rfl rfl ⟨⟨(congrArg Prod.fst sT_109), G⟩, trivial⟩ ?_
    refine wp_br (P := True) (c := (mx_i h 109 7) ≤ i2) (t := 13) (st' := []) rfl rfl trivial (fun c16 => ?_) (fun c16 => ?_)
    · have c16 := Int32.not_lt.mpr c16
      have H := H.2 c16
      exact wp_end (o := .inl none) (h' := h) (P := True) rfl rfl trivial H
    · have c16 := Int32.not_le.mp c16
      have H := H.1 c16
      refine wp_steps (i' := 12) (ls' := [some (.ref 109), some (.int i1), some (.int i2), none]) (st' := [.int (mx_i h 109 8), .int (mx_i h 109 7)]) (h' := h) (P := ((mxT 109).1 = 2 ∧ mxG h) ∧ ((mxT 109).1 = 2 ∧ mxG h) ∧ True) 4 rfl rfl ⟨⟨(congrArg Prod.fst sT_109), G⟩, ⟨(congrArg Prod.fst sT_109), G⟩, trivial⟩ ?_
      refine wp_br (P := True) (c := (mx_i h 109 8) < (mx_i h 109 7)) (t := 14) (st' := []) rfl rfl trivial (fun c17 => ?_) (fun c17 => ?_)
      · skip
        have H := H.1 c17
        refine wp_steps (i' := 17) (ls' := [some (.ref 109), some (.int i1), some (.int i2), none]) (st' := [.int (mx_i h 109 6), .int i1]) (h' := h) (P := ((mxT 109).1 = 2 ∧ mxG h) ∧ True) 3 rfl rfl ⟨⟨(congrArg Prod.fst sT_109), G⟩, trivial⟩ ?_
        refine wp_br (P := True) (c := (mx_i h 109 6) ≤ i1) (t := 21) (st' := []) rfl rfl trivial (fun c18 => ?_) (fun c18 => ?_)
        · have c18 := Int32.not_lt.mpr c18
          have H := H.2 c18
          refine wp_steps (i' := 24) (ls' := [some (.ref 109), some (.int i1), some (.int i2), none]) (st' := []) (h' := mx_wi h 109 7 i2) (P := ((mxT 109).1 = 2 ∧ mxG h) ∧ True) 3 rfl rfl ⟨⟨(congrArg Prod.fst sT_109), G⟩, trivial⟩ ?_
          obtain ⟨h19, e20⟩ : ∃ z9, z9 = mx_wi h 109 7 i2 := ⟨_, rfl⟩
          rw [← e20]
          have H := H h19 e20
          have G21 : mxG h19 := e20 ▸ mxG_wi G
          refine wp_steps (i' := 32) (ls' := [some (.ref 109), some (.int i1), some (.int i2), none]) (st' := []) (h' := mx_wrow h19 114 (va_cpy (mx_i h19 113) (mx_i h19 114) 0 0 10)) (P := ((mxT 109).1 = 2 ∧ mxG h19) ∧ ((mxT 109).1 = 2 ∧ mxG h19) ∧ ((((mxT 113).1 = 50 ∧ (mxT 114).1 = 50) ∧ mxG h19) ∧ ¬ (0 : Int32) < 0 ∧ ¬ (0 : Int32) < 0 ∧ ¬ (10 : Int32) < 0 ∧ 0 + 10 ≤ (mxT 113).2 ∧ 0 + 10 ≤ (mxT 114).2 ∧ (([] : List Value).map mx_cat).sum ≤ 8) ∧ True) 8 rfl rfl ⟨⟨(congrArg Prod.fst sT_109), G21⟩, ⟨(congrArg Prod.fst sT_109), G21⟩, (cC sT_113 sT_114 G21 rfl), trivial⟩ ?_
          obtain ⟨h22, e23⟩ : ∃ z9, z9 = mx_wrow h19 114 (va_cpy (mx_i h19 113) (mx_i h19 114) 0 0 10) := ⟨_, rfl⟩
          rw [← e23]
          have H := H h22 e23
          have G24 : mxG h22 := e23 ▸ mxG_wrow G21
          exact wp_end (o := .inl none) (h' := h22) (P := True) rfl rfl trivial H
        · have c18 := Int32.not_le.mp c18
          have H := H.1 c18
          refine wp_steps (i' := 20) (ls' := [some (.ref 109), some (.int i1), some (.int i2), none]) (st' := [.int 10, .int i1]) (h' := h) (P := True) 2 rfl rfl trivial ?_
          refine wp_br (P := True) (c := i1 < 10) (t := 33) (st' := []) rfl rfl trivial (fun c25 => ?_) (fun c25 => ?_)
          · skip
            have H := H.1 c25
            refine wp_steps (i' := 35) (ls' := [some (.ref 109), some (.int i1), some (.int i2), some (.int 0)]) (st' := []) (h' := h) (P := True) 2 rfl rfl trivial ?_
            exact H 
          · skip
            have H := H.2 c25
            refine wp_steps (i' := 24) (ls' := [some (.ref 109), some (.int i1), some (.int i2), none]) (st' := []) (h' := mx_wi h 109 7 i2) (P := ((mxT 109).1 = 2 ∧ mxG h) ∧ True) 3 rfl rfl ⟨⟨(congrArg Prod.fst sT_109), G⟩, trivial⟩ ?_
            obtain ⟨h26, e27⟩ : ∃ z9, z9 = mx_wi h 109 7 i2 := ⟨_, rfl⟩
            rw [← e27]
            have H := H h26 e27
            have G28 : mxG h26 := e27 ▸ mxG_wi G
            refine wp_steps (i' := 32) (ls' := [some (.ref 109), some (.int i1), some (.int i2), none]) (st' := []) (h' := mx_wrow h26 114 (va_cpy (mx_i h26 113) (mx_i h26 114) 0 0 10)) (P := ((mxT 109).1 = 2 ∧ mxG h26) ∧ ((mxT 109).1 = 2 ∧ mxG h26) ∧ ((((mxT 113).1 = 50 ∧ (mxT 114).1 = 50) ∧ mxG h26) ∧ ¬ (0 : Int32) < 0 ∧ ¬ (0 : Int32) < 0 ∧ ¬ (10 : Int32) < 0 ∧ 0 + 10 ≤ (mxT 113).2 ∧ 0 + 10 ≤ (mxT 114).2 ∧ (([] : List Value).map mx_cat).sum ≤ 8) ∧ True) 8 rfl rfl ⟨⟨(congrArg Prod.fst sT_109), G28⟩, ⟨(congrArg Prod.fst sT_109), G28⟩, (cC sT_113 sT_114 G28 rfl), trivial⟩ ?_
            obtain ⟨h29, e30⟩ : ∃ z9, z9 = mx_wrow h26 114 (va_cpy (mx_i h26 113) (mx_i h26 114) 0 0 10) := ⟨_, rfl⟩
            rw [← e30]
            have H := H h29 e30
            have G31 : mxG h29 := e30 ▸ mxG_wrow G28
            exact wp_end (o := .inl none) (h' := h29) (P := True) rfl rfl trivial H
      · skip
        have H := H.2 c17
        exact wp_end (o := .inl none) (h' := h) (P := True) rfl rfl trivial H
set_option maxRecDepth 8000 in
theorem tr_10_35 {d : Nat} {ev : Nat} {h : mxH} {Q : mxO → mxH → Prop}  {i1 : Int32} {i2 : Int32} {i3 : Int32} (hs_10 : ∀ {h : mxH} {Q : mxO → mxH → Prop} {i1 i2 : Int32}, mxG h → (∃ q, VDq ev i1 i2 h q) → (∀ (h1 : mxH), pD ev i1 i2 h h1 → Q (.inl none) h1) → mx_wp (d + 7) 10 0 (mx_fr 10 [.ref 109, .int i1, .int i2]) [] h Q) (G : mxG h)  (H : ((i3 < (mx_i h 109 2) → (cB i3 5 ∧ (((V_11 h i3) = 0 → (vp_in i3 6 ∧ vp_in i1 10 ∧ (∀ h6, h6 = mx_wi h 111 i3.toNatClampNeg ((mx_i h 111 i3.toNatClampNeg) + (mx_i h 112 i1.toNatClampNeg)) → (∀ h9, h9 = mx_wi h6 113 i1.toNatClampNeg (mx_i h6 110 i3.toNatClampNeg) → ((∃ q, VDq ev (i1 + 1) (if i2 < (mx_i h9 111 i3.toNatClampNeg) then (mx_i h9 111 i3.toNatClampNeg) else i2) h9 q) ∧ (∀ (h14 : mxH), pD ev (i1 + 1) (if i2 < (mx_i h9 111 i3.toNatClampNeg) then (mx_i h9 111 i3.toNatClampNeg) else i2) h9 h14 → (∀ h17, h17 = mx_wi h14 111 i3.toNatClampNeg ((mx_i h14 111 i3.toNatClampNeg) - (mx_i h14 112 i1.toNatClampNeg)) → H_10_35 (d + 8) h17 i1 i2 (i3 + 1) Q))))))) ∧ (¬ (V_11 h i3) = 0 → H_10_35 (d + 8) h i1 i2 (i3 + 1) Q)))) ∧ (¬ i3 < (mx_i h 109 2) → Q (.inl none) h))) : H_10_35 (d + 8) h i1 i2 i3 Q := by
  show mx_wp (d + 8) 10 35 [some (.ref 109), some (.int i1), some (.int i2), some (.int i3)] [] h Q
  refine wp_steps (i' := 38) (ls' := [some (.ref 109), some (.int i1), some (.int i2), some (.int i3)]) (st' := [.int (mx_i h 109 2), .int i3]) (h' := h) (P := ((mxT 109).1 = 2 ∧ mxG h) ∧ True) 3 rfl rfl ⟨⟨(congrArg Prod.fst sT_109), G⟩, trivial⟩ ?_
  refine wp_br (P := True) (c := (mx_i h 109 2) ≤ i3) (t := 86) (st' := []) rfl rfl trivial (fun c1 => ?_) (fun c1 => ?_)
  · have c1 := Int32.not_lt.mpr c1
    have H := H.2 c1
    exact wp_end (o := .inl none) (h' := h) (P := True) rfl rfl trivial H
  · have c1 := Int32.not_le.mp c1
    have H := H.1 c1
    refine wp_steps (i' := 41) (ls' := [some (.ref 109), some (.int i1), some (.int i2), some (.int i3)]) (st' := [.int i3, .ref 109]) (h' := h) (P := True) 2 rfl rfl trivial ?_
    obtain ⟨o2, H⟩ := H
    refine wp_call (b := false) (y' := 11) (as := [.ref 109, .int i3]) (rest := []) (P := ((mxT 109).1 = mxRc 11 ∧ mxG h)) rfl (by with_unfolding_all rfl) ⟨(congrArg Prod.fst sT_109), G⟩ (Nat.le_of_ble_eq_true rfl) (sp_11 G o2 ?_)
    show mx_wp (d + 8) 10 42 [some (.ref 109), some (.int i1), some (.int i2), some (.int i3)] [.int (V_11 h i3)] h Q
    refine wp_br (P := True) (c := ¬ (V_11 h i3) = 0) (t := 84) (st' := []) rfl rfl trivial (fun c3 => ?_) (fun c3 => ?_)
    · skip
      have H := H.2 c3
      refine wp_steps (i' := 85) (ls' := [some (.ref 109), some (.int i1), some (.int i2), some (.int (i3 + 1))]) (st' := []) (h' := h) (P := True) 1 rfl rfl trivial ?_
      refine wp_J (j := 35) (st' := []) rfl rfl ?_
      exact H 
    · have c3 := Decidable.of_not_not c3
      have H := H.1 c3
      obtain ⟨o4, o5, H⟩ := H
      refine wp_steps (i' := 54) (ls' := [some (.ref 109), some (.int i1), some (.int i2), some (.int i3)]) (st' := []) (h' := mx_wi h 111 i3.toNatClampNeg ((mx_i h 111 i3.toNatClampNeg) + (mx_i h 112 i1.toNatClampNeg))) (P := ((mxT 109).1 = 2 ∧ mxG h) ∧ (((mxT 111).1 = 50 ∧ mxG h) ∧ vp_in i3 (mxT 111).2) ∧ ((mxT 109).1 = 2 ∧ mxG h) ∧ (((mxT 112).1 = 50 ∧ mxG h) ∧ vp_in i1 (mxT 112).2) ∧ (((mxT 111).1 = 50 ∧ mxG h) ∧ vp_in i3 (mxT 111).2) ∧ True) 11 rfl rfl ⟨⟨(congrArg Prod.fst sT_109), G⟩, (cA sT_111 G o4), ⟨(congrArg Prod.fst sT_109), G⟩, (cA sT_112 G o5), (cA sT_111 G o4), trivial⟩ ?_
      obtain ⟨h6, e7⟩ : ∃ z9, z9 = mx_wi h 111 i3.toNatClampNeg ((mx_i h 111 i3.toNatClampNeg) + (mx_i h 112 i1.toNatClampNeg)) := ⟨_, rfl⟩
      rw [← e7]
      have H := H h6 e7
      have G8 : mxG h6 := e7 ▸ mxG_wi G
      refine wp_steps (i' := 62) (ls' := [some (.ref 109), some (.int i1), some (.int i2), some (.int i3)]) (st' := []) (h' := mx_wi h6 113 i1.toNatClampNeg (mx_i h6 110 i3.toNatClampNeg)) (P := ((mxT 109).1 = 2 ∧ mxG h6) ∧ ((mxT 109).1 = 2 ∧ mxG h6) ∧ (((mxT 110).1 = 50 ∧ mxG h6) ∧ vp_in i3 (mxT 110).2) ∧ (((mxT 113).1 = 50 ∧ mxG h6) ∧ vp_in i1 (mxT 113).2) ∧ True) 8 rfl rfl ⟨⟨(congrArg Prod.fst sT_109), G8⟩, ⟨(congrArg Prod.fst sT_109), G8⟩, (cA sT_110 G8 o4), (cA sT_113 G8 o5), trivial⟩ ?_
      obtain ⟨h9, e10⟩ : ∃ z9, z9 = mx_wi h6 113 i1.toNatClampNeg (mx_i h6 110 i3.toNatClampNeg) := ⟨_, rfl⟩
      rw [← e10]
      have H := H h9 e10
      have G11 : mxG h9 := e10 ▸ mxG_wi G8
      refine wp_steps (i' := 72) (ls' := [some (.ref 109), some (.int i1), some (.int i2), some (.int i3)]) (st' := [.int (if i2 < (mx_i h9 111 i3.toNatClampNeg) then (mx_i h9 111 i3.toNatClampNeg) else i2), .int (i1 + 1), .ref 109]) (h' := h9) (P := ((mxT 109).1 = 2 ∧ mxG h9) ∧ (((mxT 111).1 = 50 ∧ mxG h9) ∧ vp_in i3 (mxT 111).2) ∧ ((([.int (i1 + 1), .ref 109] : List Value).map mx_cat).sum ≤ 8) ∧ True) 10 rfl rfl ⟨⟨(congrArg Prod.fst sT_109), G11⟩, (cA sT_111 G11 o4), (Nat.le_of_ble_eq_true rfl), trivial⟩ ?_
      obtain ⟨o12, H⟩ := H
      refine wp_call (b := false) (y' := 10) (as := [.ref 109, .int (i1 + 1), .int (if i2 < (mx_i h9 111 i3.toNatClampNeg) then (mx_i h9 111 i3.toNatClampNeg) else i2)]) (rest := []) (P := ((mxT 109).1 = mxRc 10 ∧ mxG h9)) rfl (by with_unfolding_all rfl) ⟨(congrArg Prod.fst sT_109), G11⟩ (Nat.le_of_ble_eq_true rfl) (hs_10 G11 o12 ?_)
      intro h14 p15
      show mx_wp (d + 8) 10 73 [some (.ref 109), some (.int i1), some (.int i2), some (.int i3)] [] h14 Q
      have H := H h14 p15
      have G16 : mxG h14 := mxU_G p15.1 G11
      refine wp_steps (i' := 84) (ls' := [some (.ref 109), some (.int i1), some (.int i2), some (.int i3)]) (st' := []) (h' := mx_wi h14 111 i3.toNatClampNeg ((mx_i h14 111 i3.toNatClampNeg) - (mx_i h14 112 i1.toNatClampNeg))) (P := ((mxT 109).1 = 2 ∧ mxG h14) ∧ (((mxT 111).1 = 50 ∧ mxG h14) ∧ vp_in i3 (mxT 111).2) ∧ ((mxT 109).1 = 2 ∧ mxG h14) ∧ (((mxT 112).1 = 50 ∧ mxG h14) ∧ vp_in i1 (mxT 112).2) ∧ (((mxT 111).1 = 50 ∧ mxG h14) ∧ vp_in i3 (mxT 111).2) ∧ True) 11 rfl rfl ⟨⟨(congrArg Prod.fst sT_109), G16⟩, (cA sT_111 G16 o4), ⟨(congrArg Prod.fst sT_109), G16⟩, (cA sT_112 G16 o5), (cA sT_111 G16 o4), trivial⟩ ?_
      obtain ⟨h17, e18⟩ : ∃ z9, z9 = mx_wi h14 111 i3.toNatClampNeg ((mx_i h14 111 i3.toNatClampNeg) - (mx_i h14 112 i1.toNatClampNeg)) := ⟨_, rfl⟩
      rw [← e18]
      have H := H h17 e18
      have G19 : mxG h17 := e18 ▸ mxG_wi G16
      refine wp_steps (i' := 85) (ls' := [some (.ref 109), some (.int i1), some (.int i2), some (.int (i3 + 1))]) (st' := []) (h' := h17) (P := True) 1 rfl rfl trivial ?_
      refine wp_J (j := 35) (st' := []) rfl rfl ?_
      exact H 
