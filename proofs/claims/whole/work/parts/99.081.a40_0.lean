/-! 9: StoneBacks$Choices.dealOut(LStoneBacks$Valley;I)V -/
def H_9_10 (d : Nat) (h : mxH) (a : Nat) (i2 : Int32) (i3 : Int32) (i4 : Int32) (Q : mxO → mxH → Prop) : Prop := mx_wp d 9 10 [some (.ref 109), some (.ref a), some (.int i2), some (.int i3), some (.int i4)] [] h Q
def H_9_54 (d : Nat) (h : mxH) (a : Nat) (i3 : Int32) (i4 : Int32) (Q : mxO → mxH → Prop) : Prop := ∀ (w2 : Option Value), mx_wp d 9 54 [some (.ref 109), some (.ref a), w2, some (.int i3), some (.int i4)] [] h Q
set_option maxRecDepth 8000 in
theorem tr_9_0 {d : Nat} {h : mxH} {Q : mxO → mxH → Prop} {a : Nat} {i2 : Int32} (G : mxG h) (hVa : (mxT a).1 = 9) (H : (∀ h1, h1 = mx_wi h 109 2 0 → (∀ h4, h4 = mx_wi h1 109 6 0 → H_9_10 (d + 19) h4 a i2 0 0 Q))) : mx_wp (d + 19) 9 0 (mx_fr 9 [.ref 109, .ref a, .int i2]) [] h Q := by
  show mx_wp (d + 19) 9 0 [some (.ref 109), some (.ref a), some (.int i2), none, none] [] h Q
  refine wp_steps (i' := 3) (ls' := [some (.ref 109), some (.ref a), some (.int i2), none, none]) (st' := []) (h' := mx_wi h 109 2 0) (P := ((mxT 109).1 = 2 ∧ mxG h) ∧ True) 3 rfl rfl ⟨⟨(congrArg Prod.fst sT_109), G⟩, trivial⟩ ?_
  obtain ⟨h1, e2⟩ : ∃ z9, z9 = mx_wi h 109 2 0 := ⟨_, rfl⟩
  rw [← e2]
  have H := H h1 e2
  have G3 : mxG h1 := e2 ▸ mxG_wi G
  refine wp_steps (i' := 6) (ls' := [some (.ref 109), some (.ref a), some (.int i2), none, none]) (st' := []) (h' := mx_wi h1 109 6 0) (P := ((mxT 109).1 = 2 ∧ mxG h1) ∧ True) 3 rfl rfl ⟨⟨(congrArg Prod.fst sT_109), G3⟩, trivial⟩ ?_
  obtain ⟨h4, e5⟩ : ∃ z9, z9 = mx_wi h1 109 6 0 := ⟨_, rfl⟩
  rw [← e5]
  have H := H h4 e5
  have G6 : mxG h4 := e5 ▸ mxG_wi G3
  refine wp_steps (i' := 10) (ls' := [some (.ref 109), some (.ref a), some (.int i2), some (.int 0), some (.int 0)]) (st' := []) (h' := h4) (P := True) 4 rfl rfl trivial ?_
  exact H 
set_option maxRecDepth 8000 in
theorem tr_9_10 {d : Nat} {h : mxH} {Q : mxO → mxH → Prop} {a : Nat} {i2 : Int32} {i3 : Int32} {i4 : Int32} (G : mxG h) (hVa : (mxT a).1 = 9) (H : ((i4 < (mx_i h (a + 1) 0) → (vp_in i4 6 ∧ (((mx_i h (a + 4) i4.toNatClampNeg) = i2 → (vp_in (mx_i h 109 2) 6 ∧ (∀ h8, h8 = mx_wi h 110 (mx_i h 109 2).toNatClampNeg i4 → (vp_in (mx_i h8 109 2) 6 ∧ (∀ h12, h12 = mx_wi h8 111 (mx_i h8 109 2).toNatClampNeg 0 → (∀ h15, h15 = mx_wi h12 109 2 ((mx_i h12 109 2) + 1) → (cB (mx_i h15 (a + 7) 0) 10 ∧ H_9_10 (d + 19) h15 a i2 (i3 ||| (V_71 h15 a i4)) (i4 + 1) Q))))))) ∧ (¬ (mx_i h (a + 4) i4.toNatClampNeg) = i2 → H_9_10 (d + 19) h a i2 i3 (i4 + 1) Q)))) ∧ (¬ i4 < (mx_i h (a + 1) 0) → (∀ h2, h2 = mx_wi h 109 8 0 → H_9_54 (d + 19) h2 a i3 0 Q)))) : H_9_10 (d + 19) h a i2 i3 i4 Q := by
  show mx_wp (d + 19) 9 10 [some (.ref 109), some (.ref a), some (.int i2), some (.int i3), some (.int i4)] [] h Q
  refine wp_steps (i' := 14) (ls' := [some (.ref 109), some (.ref a), some (.int i2), some (.int i3), some (.int i4)]) (st' := [.int (mx_i h (a + 1) 0), .int i4]) (h' := h) (P := ((mxT a).1 = 9 ∧ mxG h) ∧ ((mxT (a + 1)).1 = 5 ∧ mxG h) ∧ True) 4 rfl rfl ⟨⟨(congrArg Prod.fst (sV_0 hVa)), G⟩, ⟨(congrArg Prod.fst (sV_1 hVa)), G⟩, trivial⟩ ?_
  refine wp_br (P := True) (c := (mx_i h (a + 1) 0) ≤ i4) (t := 49) (st' := []) rfl rfl trivial (fun c1 => ?_) (fun c1 => ?_)
  · have c1 := Int32.not_lt.mpr c1
    have H := H.2 c1
    refine wp_steps (i' := 52) (ls' := [some (.ref 109), some (.ref a), some (.int i2), some (.int i3), some (.int i4)]) (st' := []) (h' := mx_wi h 109 8 0) (P := ((mxT 109).1 = 2 ∧ mxG h) ∧ True) 3 rfl rfl ⟨⟨(congrArg Prod.fst sT_109), G⟩, trivial⟩ ?_
    obtain ⟨h2, e3⟩ : ∃ z9, z9 = mx_wi h 109 8 0 := ⟨_, rfl⟩
    rw [← e3]
    have H := H h2 e3
    have G4 : mxG h2 := e3 ▸ mxG_wi G
    refine wp_steps (i' := 54) (ls' := [some (.ref 109), some (.ref a), some (.int i2), some (.int i3), some (.int 0)]) (st' := []) (h' := h2) (P := True) 2 rfl rfl trivial ?_
    exact H _
  · have c1 := Int32.not_le.mp c1
    have H := H.1 c1
    obtain ⟨o5, H⟩ := H
    refine wp_steps (i' := 21) (ls' := [some (.ref 109), some (.ref a), some (.int i2), some (.int i3), some (.int i4)]) (st' := [.int i2, .int (mx_i h (a + 4) i4.toNatClampNeg)]) (h' := h) (P := ((mxT a).1 = 9 ∧ mxG h) ∧ ((mxT (a + 1)).1 = 5 ∧ mxG h) ∧ (((mxT (a + 4)).1 = 50 ∧ mxG h) ∧ vp_in i4 (mxT (a + 4)).2) ∧ True) 6 rfl rfl ⟨⟨(congrArg Prod.fst (sV_0 hVa)), G⟩, ⟨(congrArg Prod.fst (sV_1 hVa)), G⟩, (cA (sV_4 hVa) G o5), trivial⟩ ?_
    refine wp_br (P := True) (c := ¬ (mx_i h (a + 4) i4.toNatClampNeg) = i2) (t := 47) (st' := []) rfl rfl trivial (fun c6 => ?_) (fun c6 => ?_)
    · skip
      have H := H.2 c6
      refine wp_steps (i' := 48) (ls' := [some (.ref 109), some (.ref a), some (.int i2), some (.int i3), some (.int (i4 + 1))]) (st' := []) (h' := h) (P := True) 1 rfl rfl trivial ?_
      refine wp_J (j := 10) (st' := []) rfl rfl ?_
      exact H 
    · have c6 := Decidable.of_not_not c6
      have H := H.1 c6
      obtain ⟨o7, H⟩ := H
      refine wp_steps (i' := 28) (ls' := [some (.ref 109), some (.ref a), some (.int i2), some (.int i3), some (.int i4)]) (st' := []) (h' := mx_wi h 110 (mx_i h 109 2).toNatClampNeg i4) (P := ((mxT 109).1 = 2 ∧ mxG h) ∧ ((mxT 109).1 = 2 ∧ mxG h) ∧ (((mxT 110).1 = 50 ∧ mxG h) ∧ vp_in (mx_i h 109 2) (mxT 110).2) ∧ True) 6 rfl rfl ⟨⟨(congrArg Prod.fst sT_109), G⟩, ⟨(congrArg Prod.fst sT_109), G⟩, (cA sT_110 G o7), trivial⟩ ?_
      obtain ⟨h8, e9⟩ : ∃ z9, z9 = mx_wi h 110 (mx_i h 109 2).toNatClampNeg i4 := ⟨_, rfl⟩
      rw [← e9]
      have H := H h8 e9
      have G10 : mxG h8 := e9 ▸ mxG_wi G
      obtain ⟨o11, H⟩ := H
      refine wp_steps (i' := 34) (ls' := [some (.ref 109), some (.ref a), some (.int i2), some (.int i3), some (.int i4)]) (st' := []) (h' := mx_wi h8 111 (mx_i h8 109 2).toNatClampNeg 0) (P := ((mxT 109).1 = 2 ∧ mxG h8) ∧ ((mxT 109).1 = 2 ∧ mxG h8) ∧ (((mxT 111).1 = 50 ∧ mxG h8) ∧ vp_in (mx_i h8 109 2) (mxT 111).2) ∧ True) 6 rfl rfl ⟨⟨(congrArg Prod.fst sT_109), G10⟩, ⟨(congrArg Prod.fst sT_109), G10⟩, (cA sT_111 G10 o11), trivial⟩ ?_
      obtain ⟨h12, e13⟩ : ∃ z9, z9 = mx_wi h8 111 (mx_i h8 109 2).toNatClampNeg 0 := ⟨_, rfl⟩
      rw [← e13]
      have H := H h12 e13
      have G14 : mxG h12 := e13 ▸ mxG_wi G10
      refine wp_steps (i' := 40) (ls' := [some (.ref 109), some (.ref a), some (.int i2), some (.int i3), some (.int i4)]) (st' := []) (h' := mx_wi h12 109 2 ((mx_i h12 109 2) + 1)) (P := ((mxT 109).1 = 2 ∧ mxG h12) ∧ ((mxT 109).1 = 2 ∧ mxG h12) ∧ True) 6 rfl rfl ⟨⟨(congrArg Prod.fst sT_109), G14⟩, ⟨(congrArg Prod.fst sT_109), G14⟩, trivial⟩ ?_
      obtain ⟨h15, e16⟩ : ∃ z9, z9 = mx_wi h12 109 2 ((mx_i h12 109 2) + 1) := ⟨_, rfl⟩
      rw [← e16]
      have H := H h15 e16
      have G17 : mxG h15 := e16 ▸ mxG_wi G14
      refine wp_steps (i' := 44) (ls' := [some (.ref 109), some (.ref a), some (.int i2), some (.int i3), some (.int i4)]) (st' := [.int i4, .ref (a + 7), .int i3]) (h' := h15) (P := ((mxT a).1 = 9 ∧ mxG h15) ∧ True) 4 rfl rfl ⟨⟨(congrArg Prod.fst (sV_0 hVa)), G17⟩, trivial⟩ ?_
      obtain ⟨o18, H⟩ := H
      refine wp_call (b := false) (y' := 71) (as := [.ref (a + 7), .int i4]) (rest := [.int i3]) (P := ((mxT (a + 7)).1 = mxRc 71 ∧ mxG h15)) rfl (by with_unfolding_all rfl) ⟨(congrArg Prod.fst (sV_7 hVa)), G17⟩ (Nat.le_of_ble_eq_true rfl) (sp_71 G17 hVa o18 ?_)
      show mx_wp (d + 19) 9 45 [some (.ref 109), some (.ref a), some (.int i2), some (.int i3), some (.int i4)] [.int (V_71 h15 a i4), .int i3] h15 Q
      refine wp_steps (i' := 48) (ls' := [some (.ref 109), some (.ref a), some (.int i2), some (.int (i3 ||| (V_71 h15 a i4))), some (.int (i4 + 1))]) (st' := []) (h' := h15) (P := True) 3 rfl rfl trivial ?_
      refine wp_J (j := 10) (st' := []) rfl rfl ?_
      exact H 
set_option maxRecDepth 8000 in
theorem tr_9_54 {d : Nat} {h : mxH} {Q : mxO → mxH → Prop} {a : Nat} {i3 : Int32} {i4 : Int32} (G : mxG h) (hVa : (mxT a).1 = 9) (H : ((i4 < (mx_i h (a + 7) 0) → ((((i3 >>> (i4 &&& 31)) &&& 1) = 1 → (vp_in i4 10 ∧ vp_in (mx_i h 109 6) 10 ∧ (∀ h19, h19 = mx_wi h 112 (mx_i h 109 6).toNatClampNeg (mx_i h (a + 10) i4.toNatClampNeg) → (∀ h22, h22 = mx_wi h19 109 8 (if (mx_i h19 109 8) < (mx_i h19 (a + 10) i4.toNatClampNeg) then (mx_i h19 (a + 10) i4.toNatClampNeg) else (mx_i h19 109 8)) → (∀ h25, h25 = mx_wi h22 109 6 ((mx_i h22 109 6) + 1) → H_9_54 (d + 19) h25 a i3 (i4 + 1) Q))))) ∧ (¬ ((i3 >>> (i4 &&& 31)) &&& 1) = 1 → H_9_54 (d + 19) h a i3 (i4 + 1) Q))) ∧ (¬ i4 < (mx_i h (a + 7) 0) → (∀ h2, h2 = mx_wi h 109 7 (-1) → ((0 < (mx_i h2 109 2) → (cB (mx_i h2 (a + 7) 0) 10 ∧ (¬ (mx_i h2 109 2) = 0 ∧ (∀ h8, h8 = mx_wi h2 109 8 (if (mx_i h2 109 8) < ((((V_76 h2 a i3) + (mx_i h2 109 2)) - 1) / (mx_i h2 109 2)) then ((((V_76 h2 a i3) + (mx_i h2 109 2)) - 1) / (mx_i h2 109 2)) else (mx_i h2 109 8)) → ((∃ (q : Dv), VDq (q.2.1 + 1 - q.2.2.2.2.1) (0 : Int32) (0 : Int32) h8 q) ∧ (∀ (h13 : mxH), p10 (0 : Int32) (0 : Int32) h8 h13 → Q (.inl none) h13)))))) ∧ (¬ 0 < (mx_i h2 109 2) → Q (.inl none) h2)))))) : H_9_54 (d + 19) h a i3 i4 Q := by
  intro w2
  show mx_wp (d + 19) 9 54 [some (.ref 109), some (.ref a), w2, some (.int i3), some (.int i4)] [] h Q
  refine wp_steps (i' := 58) (ls' := [some (.ref 109), some (.ref a), w2, some (.int i3), some (.int i4)]) (st' := [.int (mx_i h (a + 7) 0), .int i4]) (h' := h) (P := ((mxT a).1 = 9 ∧ mxG h) ∧ ((mxT (a + 7)).1 = 7 ∧ mxG h) ∧ True) 4 rfl rfl ⟨⟨(congrArg Prod.fst (sV_0 hVa)), G⟩, ⟨(congrArg Prod.fst (sV_7 hVa)), G⟩, trivial⟩ ?_
  refine wp_br (P := True) (c := (mx_i h (a + 7) 0) ≤ i4) (t := 94) (st' := []) rfl rfl trivial (fun c1 => ?_) (fun c1 => ?_)
  · have c1 := Int32.not_lt.mpr c1
    have H := H.2 c1
    refine wp_steps (i' := 97) (ls' := [some (.ref 109), some (.ref a), w2, some (.int i3), some (.int i4)]) (st' := []) (h' := mx_wi h 109 7 (-1)) (P := ((mxT 109).1 = 2 ∧ mxG h) ∧ True) 3 rfl rfl ⟨⟨(congrArg Prod.fst sT_109), G⟩, trivial⟩ ?_
    obtain ⟨h2, e3⟩ : ∃ z9, z9 = mx_wi h 109 7 (-1) := ⟨_, rfl⟩
    rw [← e3]
    have H := H h2 e3
    have G4 : mxG h2 := e3 ▸ mxG_wi G
    refine wp_steps (i' := 99) (ls' := [some (.ref 109), some (.ref a), w2, some (.int i3), some (.int i4)]) (st' := [.int (mx_i h2 109 2)]) (h' := h2) (P := ((mxT 109).1 = 2 ∧ mxG h2) ∧ True) 2 rfl rfl ⟨⟨(congrArg Prod.fst sT_109), G4⟩, trivial⟩ ?_
    refine wp_br (P := True) (c := (mx_i h2 109 2) ≤ 0) (t := 123) (st' := []) rfl rfl trivial (fun c5 => ?_) (fun c5 => ?_)
    · have c5 := Int32.not_lt.mpr c5
      have H := H.2 c5
      exact wp_end (o := .inl none) (h' := h2) (P := True) rfl rfl trivial H
    · have c5 := Int32.not_le.mp c5
      have H := H.1 c5
      refine wp_steps (i' := 103) (ls' := [some (.ref 109), some (.ref a), w2, some (.int i3), some (.int i4)]) (st' := [.int i3, .ref (a + 7)]) (h' := h2) (P := ((mxT a).1 = 9 ∧ mxG h2) ∧ True) 3 rfl rfl ⟨⟨(congrArg Prod.fst (sV_0 hVa)), G4⟩, trivial⟩ ?_
      obtain ⟨o6, H⟩ := H
      refine wp_call (b := false) (y' := 76) (as := [.ref (a + 7), .int i3]) (rest := []) (P := ((mxT (a + 7)).1 = mxRc 76 ∧ mxG h2)) rfl (by with_unfolding_all rfl) ⟨(congrArg Prod.fst (sV_7 hVa)), G4⟩ (Nat.le_of_ble_eq_true rfl) (sp_76 G4 hVa o6 ?_)
      show mx_wp (d + 19) 9 104 [some (.ref 109), some (.ref a), w2, some (.int i3), some (.int i4)] [.int (V_76 h2 a i3)] h2 Q
      obtain ⟨o7, H⟩ := H
      refine wp_steps (i' := 119) (ls' := [some (.ref 109), some (.ref a), w2, some (.int i3), some (.int ((((V_76 h2 a i3) + (mx_i h2 109 2)) - 1) / (mx_i h2 109 2)))]) (st' := []) (h' := mx_wi h2 109 8 (if (mx_i h2 109 8) < ((((V_76 h2 a i3) + (mx_i h2 109 2)) - 1) / (mx_i h2 109 2)) then ((((V_76 h2 a i3) + (mx_i h2 109 2)) - 1) / (mx_i h2 109 2)) else (mx_i h2 109 8))) (P := ((mxT 109).1 = 2 ∧ mxG h2) ∧ ((mxT 109).1 = 2 ∧ mxG h2) ∧ (¬ (mx_i h2 109 2) = 0) ∧ ((mxT 109).1 = 2 ∧ mxG h2) ∧ ((([.ref 109] : List Value).map mx_cat).sum ≤ 8) ∧ ((mxT 109).1 = 2 ∧ mxG h2) ∧ True) 15 rfl rfl ⟨⟨(congrArg Prod.fst sT_109), G4⟩, ⟨(congrArg Prod.fst sT_109), G4⟩, o7, ⟨(congrArg Prod.fst sT_109), G4⟩, (Nat.le_of_ble_eq_true rfl), ⟨(congrArg Prod.fst sT_109), G4⟩, trivial⟩ ?_
      obtain ⟨h8, e9⟩ : ∃ z9, z9 = mx_wi h2 109 8 (if (mx_i h2 109 8) < ((((V_76 h2 a i3) + (mx_i h2 109 2)) - 1) / (mx_i h2 109 2)) then ((((V_76 h2 a i3) + (mx_i h2 109 2)) - 1) / (mx_i h2 109 2)) else (mx_i h2 109 8)) := ⟨_, rfl⟩
      rw [← e9]
      have H := H h8 e9
      have G10 : mxG h8 := e9 ▸ mxG_wi G4
      refine wp_steps (i' := 122) (ls' := [some (.ref 109), some (.ref a), w2, some (.int i3), some (.int ((((V_76 h2 a i3) + (mx_i h2 109 2)) - 1) / (mx_i h2 109 2)))]) (st' := [.int 0, .int 0, .ref 109]) (h' := h8) (P := True) 3 rfl rfl trivial ?_
      obtain ⟨o11, H⟩ := H
      refine wp_call (b := false) (y' := 10) (as := [.ref 109, .int 0, .int 0]) (rest := []) (P := ((mxT 109).1 = mxRc 10 ∧ mxG h8)) rfl (by with_unfolding_all rfl) ⟨(congrArg Prod.fst sT_109), G10⟩ (Nat.le_of_ble_eq_true rfl) (sp_10 G10 o11 ?_)
      intro h13 p14
      show mx_wp (d + 19) 9 123 [some (.ref 109), some (.ref a), w2, some (.int i3), some (.int ((((V_76 h2 a i3) + (mx_i h2 109 2)) - 1) / (mx_i h2 109 2)))] [] h13 Q
      have H := H h13 p14
      have G15 : mxG h13 := mxU_G p14.1 G10
      exact wp_end (o := .inl none) (h' := h13) (P := True) rfl rfl trivial H
  · have c1 := Int32.not_le.mp c1
    have H := H.1 c1
    refine wp_steps (i' := 65) (ls' := [some (.ref 109), some (.ref a), w2, some (.int i3), some (.int i4)]) (st' := [.int 1, .int ((i3 >>> (i4 &&& 31)) &&& 1)]) (h' := h) (P := True) 6 rfl rfl trivial ?_
    refine wp_br (P := True) (c := ¬ ((i3 >>> (i4 &&& 31)) &&& 1) = 1) (t := 92) (st' := []) rfl rfl trivial (fun c16 => ?_) (fun c16 => ?_)
    · skip
      have H := H.2 c16
      refine wp_steps (i' := 93) (ls' := [some (.ref 109), some (.ref a), w2, some (.int i3), some (.int (i4 + 1))]) (st' := []) (h' := h) (P := True) 1 rfl rfl trivial ?_
      refine wp_J (j := 54) (st' := []) rfl rfl ?_
      exact H _
    · have c16 := Decidable.of_not_not c16
      have H := H.1 c16
      obtain ⟨o17, o18, H⟩ := H
      refine wp_steps (i' := 76) (ls' := [some (.ref 109), some (.ref a), w2, some (.int i3), some (.int i4)]) (st' := []) (h' := mx_wi h 112 (mx_i h 109 6).toNatClampNeg (mx_i h (a + 10) i4.toNatClampNeg)) (P := ((mxT 109).1 = 2 ∧ mxG h) ∧ ((mxT 109).1 = 2 ∧ mxG h) ∧ ((mxT a).1 = 9 ∧ mxG h) ∧ ((mxT (a + 7)).1 = 7 ∧ mxG h) ∧ (((mxT (a + 10)).1 = 50 ∧ mxG h) ∧ vp_in i4 (mxT (a + 10)).2) ∧ (((mxT 112).1 = 50 ∧ mxG h) ∧ vp_in (mx_i h 109 6) (mxT 112).2) ∧ True) 10 rfl rfl ⟨⟨(congrArg Prod.fst sT_109), G⟩, ⟨(congrArg Prod.fst sT_109), G⟩, ⟨(congrArg Prod.fst (sV_0 hVa)), G⟩, ⟨(congrArg Prod.fst (sV_7 hVa)), G⟩, (cA (sV_10 hVa) G o17), (cA sT_112 G o18), trivial⟩ ?_
      obtain ⟨h19, e20⟩ : ∃ z9, z9 = mx_wi h 112 (mx_i h 109 6).toNatClampNeg (mx_i h (a + 10) i4.toNatClampNeg) := ⟨_, rfl⟩
      rw [← e20]
      have H := H h19 e20
      have G21 : mxG h19 := e20 ▸ mxG_wi G
      refine wp_steps (i' := 86) (ls' := [some (.ref 109), some (.ref a), w2, some (.int i3), some (.int i4)]) (st' := []) (h' := mx_wi h19 109 8 (if (mx_i h19 109 8) < (mx_i h19 (a + 10) i4.toNatClampNeg) then (mx_i h19 (a + 10) i4.toNatClampNeg) else (mx_i h19 109 8))) (P := ((mxT 109).1 = 2 ∧ mxG h19) ∧ ((mxT a).1 = 9 ∧ mxG h19) ∧ ((mxT (a + 7)).1 = 7 ∧ mxG h19) ∧ (((mxT (a + 10)).1 = 50 ∧ mxG h19) ∧ vp_in i4 (mxT (a + 10)).2) ∧ ((([.ref 109] : List Value).map mx_cat).sum ≤ 8) ∧ ((mxT 109).1 = 2 ∧ mxG h19) ∧ True) 10 rfl rfl ⟨⟨(congrArg Prod.fst sT_109), G21⟩, ⟨(congrArg Prod.fst (sV_0 hVa)), G21⟩, ⟨(congrArg Prod.fst (sV_7 hVa)), G21⟩, (cA (sV_10 hVa) G21 o17), (Nat.le_of_ble_eq_true rfl), ⟨(congrArg Prod.fst sT_109), G21⟩, trivial⟩ ?_
      obtain ⟨h22, e23⟩ : ∃ z9, z9 = mx_wi h19 109 8 (if (mx_i h19 109 8) < (mx_i h19 (a + 10) i4.toNatClampNeg) then (mx_i h19 (a + 10) i4.toNatClampNeg) else (mx_i h19 109 8)) := ⟨_, rfl⟩
      rw [← e23]
      have H := H h22 e23
      have G24 : mxG h22 := e23 ▸ mxG_wi G21
      refine wp_steps (i' := 92) (ls' := [some (.ref 109), some (.ref a), w2, some (.int i3), some (.int i4)]) (st' := []) (h' := mx_wi h22 109 6 ((mx_i h22 109 6) + 1)) (P := ((mxT 109).1 = 2 ∧ mxG h22) ∧ ((mxT 109).1 = 2 ∧ mxG h22) ∧ True) 6 rfl rfl ⟨⟨(congrArg Prod.fst sT_109), G24⟩, ⟨(congrArg Prod.fst sT_109), G24⟩, trivial⟩ ?_
      obtain ⟨h25, e26⟩ : ∃ z9, z9 = mx_wi h22 109 6 ((mx_i h22 109 6) + 1) := ⟨_, rfl⟩
      rw [← e26]
      have H := H h25 e26
      have G27 : mxG h25 := e26 ▸ mxG_wi G24
      refine wp_steps (i' := 93) (ls' := [some (.ref 109), some (.ref a), w2, some (.int i3), some (.int (i4 + 1))]) (st' := []) (h' := h25) (P := True) 1 rfl rfl trivial ?_
      refine wp_J (j := 54) (st' := []) rfl rfl ?_
      exact H _
def F_9_10 (a : Nat) (i2 : Int32) (z : Nat) (s : (Int32 × mxH)) : (Int32 × mxH) := ((if (mx_i s.2 (a + 4) (nI z).toNatClampNeg) = i2 then (s.1 ||| (V_71 (mx_wi (mx_wi (mx_wi s.2 110 (mx_i s.2 109 2).toNatClampNeg (nI z)) 111 (mx_i (mx_wi s.2 110 (mx_i s.2 109 2).toNatClampNeg (nI z)) 109 2).toNatClampNeg 0) 109 2 ((mx_i (mx_wi (mx_wi s.2 110 (mx_i s.2 109 2).toNatClampNeg (nI z)) 111 (mx_i (mx_wi s.2 110 (mx_i s.2 109 2).toNatClampNeg (nI z)) 109 2).toNatClampNeg 0) 109 2) + 1)) a (nI z))) else s.1), (if (mx_i s.2 (a + 4) (nI z).toNatClampNeg) = i2 then (mx_wi (mx_wi (mx_wi s.2 110 (mx_i s.2 109 2).toNatClampNeg (nI z)) 111 (mx_i (mx_wi s.2 110 (mx_i s.2 109 2).toNatClampNeg (nI z)) 109 2).toNatClampNeg 0) 109 2 ((mx_i (mx_wi (mx_wi s.2 110 (mx_i s.2 109 2).toNatClampNeg (nI z)) 111 (mx_i (mx_wi s.2 110 (mx_i s.2 109 2).toNatClampNeg (nI z)) 109 2).toNatClampNeg 0) 109 2) + 1)) else s.2))
theorem K_9_10 {a : Nat} {i2 : Int32} (z : Nat) (s : (Int32 × mxH)) : mxK s.2 ((F_9_10 a i2) z s).2 := by
  unfold F_9_10
  (try simp only []); repeat' (first | with_reducible exact mxK_rfl | with_reducible exact mxK_wi | with_reducible exact mxK_wrow | with_reducible refine mxK_ite ?_ ?_ | with_reducible refine mxK_tr ?_ mxK_wi | with_reducible refine mxK_tr ?_ mxK_wrow)
theorem lp_9_10 {d : Nat} {Q : mxO → mxH → Prop} {a : Nat} {i2 : Int32} {s0 : (Int32 × mxH)} {n : Nat} (z0 : Nat) (G : mxG s0.2) (hVa : (mxT a).1 = 9) (hB : ∀ z, z0 ≤ z → z ≤ n → (mx_i (fz (F_9_10 a i2) z0 z s0).2 (a + 1) 0) = nI n) (hn : n < 2147483648) (hz : z0 ≤ n) (ob : ∀ z, z0 ≤ z → z < n → (vp_in (nI z) 6 ∧ (((mx_i (fz (F_9_10 a i2) z0 z s0).2 (a + 4) (nI z).toNatClampNeg) = i2 → (vp_in (mx_i (fz (F_9_10 a i2) z0 z s0).2 109 2) 6 ∧ (vp_in (mx_i (mx_wi (fz (F_9_10 a i2) z0 z s0).2 110 (mx_i (fz (F_9_10 a i2) z0 z s0).2 109 2).toNatClampNeg (nI z)) 109 2) 6 ∧ (cB (mx_i (mx_wi (mx_wi (mx_wi (fz (F_9_10 a i2) z0 z s0).2 110 (mx_i (fz (F_9_10 a i2) z0 z s0).2 109 2).toNatClampNeg (nI z)) 111 (mx_i (mx_wi (fz (F_9_10 a i2) z0 z s0).2 110 (mx_i (fz (F_9_10 a i2) z0 z s0).2 109 2).toNatClampNeg (nI z)) 109 2).toNatClampNeg 0) 109 2 ((mx_i (mx_wi (mx_wi (fz (F_9_10 a i2) z0 z s0).2 110 (mx_i (fz (F_9_10 a i2) z0 z s0).2 109 2).toNatClampNeg (nI z)) 111 (mx_i (mx_wi (fz (F_9_10 a i2) z0 z s0).2 110 (mx_i (fz (F_9_10 a i2) z0 z s0).2 109 2).toNatClampNeg (nI z)) 109 2).toNatClampNeg 0) 109 2) + 1)) (a + 7) 0) 10 ∧ True)))) ∧ (¬ (mx_i (fz (F_9_10 a i2) z0 z s0).2 (a + 4) (nI z).toNatClampNeg) = i2 → True)))) (k : (∀ h2, h2 = mx_wi (fz (F_9_10 a i2) z0 n s0).2 109 8 0 → H_9_54 (d + 19) h2 a (fz (F_9_10 a i2) z0 n s0).1 0 Q)) : H_9_10 (d + 19) s0.2 a i2 s0.1 (nI z0) Q := by
  have L : ∀ (j z : Nat), z0 ≤ z → z + j = n → H_9_10 (d + 19) (fz (F_9_10 a i2) z0 z s0).2 a i2 (fz (F_9_10 a i2) z0 z s0).1 (nI z) Q := by
    intro j
    induction j with
    | zero =>
      intro z hz0 hzn
      have hzn : z = n := by omega
      subst hzn
      have Gz : mxG (fz (F_9_10 a i2) z0 z s0).2 := mxK_G (mxK_fz (g := fun s => s.2) (fun z s => K_9_10 z s) z0 z s0) G
      have hBz := hB z hz0 (by omega)
      refine tr_9_10 Gz hVa ⟨fun c9 => absurd (hBz ▸ c9) Int32.lt_irrefl, fun c9 => k⟩
    | succ j ih =>
      intro z hz0 hzn
      have hih := ih (z + 1) (by omega) (by omega)
      rw [nI_succ, fz_s hz0] at hih
      have Gz : mxG (fz (F_9_10 a i2) z0 z s0).2 := mxK_G (mxK_fz (g := fun s => s.2) (fun z s => K_9_10 z s) z0 z s0) G
      have hBz := hB z hz0 (by omega)
      have hob := ob z hz0 (by omega)
      refine tr_9_10 Gz hVa ⟨fun c9 => ?_, fun c9 => absurd (hBz.symm ▸ nI_lt (by omega) hn) c9⟩
      generalize (fz (F_9_10 a i2) z0 z s0) = s at hih hob hBz Gz ⊢
      unfold F_9_10 at hih
      (try simp only [] at hih)
      obtain ⟨q0, hob⟩ := hob
      refine ⟨q0, ?_⟩
      refine ⟨fun c9 => ?_, fun c9 => ?_⟩
      · try simp only [if_pos c9] at hih
        have hob := hob.1 c9
        obtain ⟨q0, hob⟩ := hob
        refine ⟨q0, ?_⟩
        intro h8 eh8
        subst eh8
        obtain ⟨q0, hob⟩ := hob
        refine ⟨q0, ?_⟩
        intro h12 eh12
        subst eh12
        intro h15 eh15
        subst eh15
        obtain ⟨q0, hob⟩ := hob
        refine ⟨q0, ?_⟩
        exact hih
      · try simp only [if_neg c9] at hih
        have hob := hob.2 c9
        exact hih
  have L0 := L (n - z0) z0 (Nat.le_refl _) (by omega)
  simp only [fz_0] at L0
  exact L0
def F_9_54 (a : Nat) (i3 : Int32) (z : Nat) (s : mxH) : mxH := (if ((i3 >>> ((nI z) &&& 31)) &&& 1) = 1 then (mx_wi (mx_wi (mx_wi s 112 (mx_i s 109 6).toNatClampNeg (mx_i s (a + 10) (nI z).toNatClampNeg)) 109 8 (if (mx_i (mx_wi s 112 (mx_i s 109 6).toNatClampNeg (mx_i s (a + 10) (nI z).toNatClampNeg)) 109 8) < (mx_i (mx_wi s 112 (mx_i s 109 6).toNatClampNeg (mx_i s (a + 10) (nI z).toNatClampNeg)) (a + 10) (nI z).toNatClampNeg) then (mx_i (mx_wi s 112 (mx_i s 109 6).toNatClampNeg (mx_i s (a + 10) (nI z).toNatClampNeg)) (a + 10) (nI z).toNatClampNeg) else (mx_i (mx_wi s 112 (mx_i s 109 6).toNatClampNeg (mx_i s (a + 10) (nI z).toNatClampNeg)) 109 8))) 109 6 ((mx_i (mx_wi (mx_wi s 112 (mx_i s 109 6).toNatClampNeg (mx_i s (a + 10) (nI z).toNatClampNeg)) 109 8 (if (mx_i (mx_wi s 112 (mx_i s 109 6).toNatClampNeg (mx_i s (a + 10) (nI z).toNatClampNeg)) 109 8) < (mx_i (mx_wi s 112 (mx_i s 109 6).toNatClampNeg (mx_i s (a + 10) (nI z).toNatClampNeg)) (a + 10) (nI z).toNatClampNeg) then (mx_i (mx_wi s 112 (mx_i s 109 6).toNatClampNeg (mx_i s (a + 10) (nI z).toNatClampNeg)) (a + 10) (nI z).toNatClampNeg) else (mx_i (mx_wi s 112 (mx_i s 109 6).toNatClampNeg (mx_i s (a + 10) (nI z).toNatClampNeg)) 109 8))) 109 6) + 1)) else s)
theorem K_9_54 {a : Nat} {i3 : Int32} (z : Nat) (s : mxH) : mxK s ((F_9_54 a i3) z s) := by
  unfold F_9_54
  (try simp only []); repeat' (first | with_reducible exact mxK_rfl | with_reducible exact mxK_wi | with_reducible exact mxK_wrow | with_reducible refine mxK_ite ?_ ?_ | with_reducible refine mxK_tr ?_ mxK_wi | with_reducible refine mxK_tr ?_ mxK_wrow)
theorem lp_9_54 {d : Nat} {Q : mxO → mxH → Prop} {a : Nat} {i3 : Int32} {s0 : mxH} {n : Nat} (z0 : Nat) (G : mxG s0) (hVa : (mxT a).1 = 9) (hB : ∀ z, z0 ≤ z → z ≤ n → (mx_i (fz (F_9_54 a i3) z0 z s0) (a + 7) 0) = nI n) (hn : n < 2147483648) (hz : z0 ≤ n) (ob : ∀ z, z0 ≤ z → z < n → ((((i3 >>> ((nI z) &&& 31)) &&& 1) = 1 → (vp_in (nI z) 10 ∧ vp_in (mx_i (fz (F_9_54 a i3) z0 z s0) 109 6) 10 ∧ True)) ∧ (¬ ((i3 >>> ((nI z) &&& 31)) &&& 1) = 1 → True))) (k : (∀ h2, h2 = mx_wi (fz (F_9_54 a i3) z0 n s0) 109 7 (-1) → ((0 < (mx_i h2 109 2) → (cB (mx_i h2 (a + 7) 0) 10 ∧ (¬ (mx_i h2 109 2) = 0 ∧ (∀ h8, h8 = mx_wi h2 109 8 (if (mx_i h2 109 8) < ((((V_76 h2 a i3) + (mx_i h2 109 2)) - 1) / (mx_i h2 109 2)) then ((((V_76 h2 a i3) + (mx_i h2 109 2)) - 1) / (mx_i h2 109 2)) else (mx_i h2 109 8)) → ((∃ (q : Dv), VDq (q.2.1 + 1 - q.2.2.2.2.1) (0 : Int32) (0 : Int32) h8 q) ∧ (∀ (h13 : mxH), p10 (0 : Int32) (0 : Int32) h8 h13 → Q (.inl none) h13)))))) ∧ (¬ 0 < (mx_i h2 109 2) → Q (.inl none) h2)))) : H_9_54 (d + 19) s0 a i3 (nI z0) Q := by
  have L : ∀ (j z : Nat), z0 ≤ z → z + j = n → H_9_54 (d + 19) (fz (F_9_54 a i3) z0 z s0) a i3 (nI z) Q := by
    intro j
    induction j with
    | zero =>
      intro z hz0 hzn
      have hzn : z = n := by omega
      subst hzn
      have Gz : mxG (fz (F_9_54 a i3) z0 z s0) := mxK_G (mxK_fz (g := fun s => s) (fun z s => K_9_54 z s) z0 z s0) G
      have hBz := hB z hz0 (by omega)
      refine tr_9_54 Gz hVa ⟨fun c9 => absurd (hBz ▸ c9) Int32.lt_irrefl, fun c9 => k⟩
    | succ j ih =>
      intro z hz0 hzn
      have hih := ih (z + 1) (by omega) (by omega)
      rw [nI_succ, fz_s hz0] at hih
      have Gz : mxG (fz (F_9_54 a i3) z0 z s0) := mxK_G (mxK_fz (g := fun s => s) (fun z s => K_9_54 z s) z0 z s0) G
      have hBz := hB z hz0 (by omega)
      have hob := ob z hz0 (by omega)
      refine tr_9_54 Gz hVa ⟨fun c9 => ?_, fun c9 => absurd (hBz.symm ▸ nI_lt (by omega) hn) c9⟩
      generalize (fz (F_9_54 a i3) z0 z s0) = s at hih hob hBz Gz ⊢
      unfold F_9_54 at hih
      (try simp only [] at hih)
      refine ⟨fun c9 => ?_, fun c9 => ?_⟩
      · try simp only [if_pos c9] at hih
        have hob := hob.1 c9
        obtain ⟨q0, q1, hob⟩ := hob
        refine ⟨q0, q1, ?_⟩
        intro h19 eh19
        subst eh19
        intro h22 eh22
        subst eh22
        intro h25 eh25
        subst eh25
        exact hih
      · try simp only [if_neg c9] at hih
        have hob := hob.2 c9
        exact hih
  have L0 := L (n - z0) z0 (Nat.le_refl _) (by omega)
  simp only [fz_0] at L0
  exact L0
