/-! 24: StoneBacks$Law.amountFor(ILStoneBacks$Valley;I)I -/
def H_24_23 (d : Nat) (h : mxH) (b : Nat) (a : Nat) (i1 : Int32) (i4 : Int32) (i5 : Int32) (Q : mxO → mxH → Prop) : Prop := ∀ (w2 : Option Value) (w3 : Option Value), mx_wp d 24 23 [some (.ref b), some (.int i1), w2, w3, some (.int i4), some (.int i5)] [] h Q
set_option maxRecDepth 8000 in
theorem tr_24_0 {d : Nat} {h : mxH} {Q : mxO → mxH → Prop} {b : Nat} {i1 : Int32} {a : Nat} {i3 : Int32} (G : mxG h) (hVb : (mxT b).1 = 3) (hVa : (mxT a).1 = 9) (H : (((mx_i h b 0) = 0 → (cB (mx_i h (a + 7) 0) 10 ∧ (vp_in i3 6 ∧ Q (.inl (some (.int (V_25 h i1 (V_77 h a i3) (mx_i h (a + 3) i3.toNatClampNeg))))) h))) ∧ (¬ (mx_i h b 0) = 0 → (vp_in i3 6 ∧ cB (mx_i h (a + 7) 0) 10 ∧ vp_in (mx_i h (a + 4) i3.toNatClampNeg) 12 ∧ (∀ h5, h5 = W_26 h b a i3 → H_24_23 (d + 2) h5 b a i1 0 0 Q))))) : mx_wp (d + 2) 24 0 (mx_fr 24 [.ref b, .int i1, .ref a, .int i3]) [] h Q := by
  show mx_wp (d + 2) 24 0 [some (.ref b), some (.int i1), some (.ref a), some (.int i3), none, none] [] h Q
  refine wp_steps (i' := 2) (ls' := [some (.ref b), some (.int i1), some (.ref a), some (.int i3), none, none]) (st' := [.int (mx_i h b 0)]) (h' := h) (P := ((mxT b).1 = 3 ∧ mxG h) ∧ True) 2 rfl rfl ⟨⟨(congrArg Prod.fst (sL_0 hVb)), G⟩, trivial⟩ ?_
  refine wp_br (P := True) (c := ¬ (mx_i h b 0) = 0) (t := 15) (st' := []) rfl rfl trivial (fun c1 => ?_) (fun c1 => ?_)
  · skip
    have H := H.2 c1
    refine wp_steps (i' := 18) (ls' := [some (.ref b), some (.int i1), some (.ref a), some (.int i3), none, none]) (st' := [.int i3, .ref a, .ref b]) (h' := h) (P := True) 3 rfl rfl trivial ?_
    obtain ⟨o2, o3, o4, H⟩ := H
    refine wp_call (b := false) (y' := 26) (as := [.ref b, .ref a, .int i3]) (rest := []) (P := ((mxT b).1 = mxRc 26 ∧ mxG h)) rfl (by with_unfolding_all rfl) ⟨(congrArg Prod.fst (sL_0 hVb)), G⟩ (Nat.le_of_ble_eq_true rfl) (sp_26 G hVb hVa o2 o3 o4 ?_)
    show mx_wp (d + 2) 24 19 [some (.ref b), some (.int i1), some (.ref a), some (.int i3), none, none] [] (W_26 h b a i3) Q
    obtain ⟨h5, e6⟩ : ∃ z9, z9 = W_26 h b a i3 := ⟨_, rfl⟩
    rw [← e6]
    have H := H h5 e6
    have K8 : mxK h h5 := e6 ▸ KW_26
    have G7 : mxG h5 := mxK_G K8 G
    refine wp_steps (i' := 23) (ls' := [some (.ref b), some (.int i1), some (.ref a), some (.int i3), some (.int 0), some (.int 0)]) (st' := []) (h' := h5) (P := True) 4 rfl rfl trivial ?_
    exact H _ _
  · have c1 := Decidable.of_not_not c1
    have H := H.1 c1
    refine wp_steps (i' := 7) (ls' := [some (.ref b), some (.int i1), some (.ref a), some (.int i3), none, none]) (st' := [.int i3, .ref (a + 7), .int i1]) (h' := h) (P := ((mxT a).1 = 9 ∧ mxG h) ∧ True) 4 rfl rfl ⟨⟨(congrArg Prod.fst (sV_0 hVa)), G⟩, trivial⟩ ?_
    obtain ⟨o9, H⟩ := H
    refine wp_call (b := false) (y' := 77) (as := [.ref (a + 7), .int i3]) (rest := [.int i1]) (P := ((mxT (a + 7)).1 = mxRc 77 ∧ mxG h)) rfl (by with_unfolding_all rfl) ⟨(congrArg Prod.fst (sV_7 hVa)), G⟩ (Nat.le_of_ble_eq_true rfl) (sp_77 G hVa o9 ?_)
    show mx_wp (d + 2) 24 8 [some (.ref b), some (.int i1), some (.ref a), some (.int i3), none, none] [.int (V_77 h a i3), .int i1] h Q
    obtain ⟨o10, H⟩ := H
    refine wp_steps (i' := 13) (ls' := [some (.ref b), some (.int i1), some (.ref a), some (.int i3), none, none]) (st' := [.int (mx_i h (a + 3) i3.toNatClampNeg), .int (V_77 h a i3), .int i1]) (h' := h) (P := ((mxT a).1 = 9 ∧ mxG h) ∧ ((mxT (a + 1)).1 = 5 ∧ mxG h) ∧ (((mxT (a + 3)).1 = 50 ∧ mxG h) ∧ vp_in i3 (mxT (a + 3)).2) ∧ True) 5 rfl rfl ⟨⟨(congrArg Prod.fst (sV_0 hVa)), G⟩, ⟨(congrArg Prod.fst (sV_1 hVa)), G⟩, (cA (sV_3 hVa) G o10), trivial⟩ ?_
    refine wp_call (b := false) (y' := 25) (as := [.int i1, .int (V_77 h a i3), .int (mx_i h (a + 3) i3.toNatClampNeg)]) (rest := []) (P := True) rfl (by with_unfolding_all rfl) trivial (Nat.le_of_ble_eq_true rfl) (sp_25 G ?_)
    show mx_wp (d + 2) 24 14 [some (.ref b), some (.int i1), some (.ref a), some (.int i3), none, none] [.int (V_25 h i1 (V_77 h a i3) (mx_i h (a + 3) i3.toNatClampNeg))] h Q
    exact wp_end (o := .inl (some (.int (V_25 h i1 (V_77 h a i3) (mx_i h (a + 3) i3.toNatClampNeg))))) (h' := h) (P := True) rfl rfl trivial H
set_option maxRecDepth 8000 in
theorem tr_24_23 {d : Nat} {h : mxH} {Q : mxO → mxH → Prop} {b : Nat} {a : Nat} {i1 : Int32} {i4 : Int32} {i5 : Int32} (G : mxG h) (hVb : (mxT b).1 = 3) (hVa : (mxT a).1 = 9) (H : ((i5 < (mx_i h b 1) → (vp_in i5 12 ∧ (((mx_i h (b + 1) i5.toNatClampNeg) = i1 → (okF h b i5 ∧ (∀ (x7 : Int32) (h8 : mxH), p27 b i5 h x7 h8 → (∀ (v11 : Int32), v11 = ((if x7 = 0 then i4 else (i4 + (mx_i h8 (b + 2) i5.toNatClampNeg))) : Int32) → H_24_23 (d + 2) h8 b a i1 v11 (i5 + 1) Q)))) ∧ (¬ (mx_i h (b + 1) i5.toNatClampNeg) = i1 → H_24_23 (d + 2) h b a i1 i4 (i5 + 1) Q)))) ∧ (¬ i5 < (mx_i h b 1) → (∀ (v2 : Int32), v2 = ((if i1 = 2 then (if i4 < 100 then i4 else 100) else i4) : Int32) → Q (.inl (some (.int v2))) h)))) : H_24_23 (d + 2) h b a i1 i4 i5 Q := by
  intro w2 w3
  show mx_wp (d + 2) 24 23 [some (.ref b), some (.int i1), w2, w3, some (.int i4), some (.int i5)] [] h Q
  refine wp_steps (i' := 26) (ls' := [some (.ref b), some (.int i1), w2, w3, some (.int i4), some (.int i5)]) (st' := [.int (mx_i h b 1), .int i5]) (h' := h) (P := ((mxT b).1 = 3 ∧ mxG h) ∧ True) 3 rfl rfl ⟨⟨(congrArg Prod.fst (sL_0 hVb)), G⟩, trivial⟩ ?_
  refine wp_br (P := True) (c := (mx_i h b 1) ≤ i5) (t := 46) (st' := []) rfl rfl trivial (fun c1 => ?_) (fun c1 => ?_)
  · have c1 := Int32.not_lt.mpr c1
    have H := H.2 c1
    refine wp_steps (i' := 48) (ls' := [some (.ref b), some (.int i1), w2, w3, some (.int i4), some (.int i5)]) (st' := [.int 2, .int i1]) (h' := h) (P := True) 2 rfl rfl trivial ?_
    have J : ∀ (v2 : Int32) (ev2 : v2 = ((if i1 = 2 then (if i4 < 100 then i4 else 100) else i4) : Int32)), mx_wp (d + 2) 24 54 [some (.ref b), some (.int i1), w2, w3, some (.int i4), some (.int i5)] [.int v2] h Q := by
      intro v2 ev2
      have H := H v2 ev2
      exact wp_end (o := .inl (some (.int v2))) (h' := h) (P := True) rfl rfl trivial H
    refine wp_br (P := True) (c := ¬ i1 = 2) (t := 53) (st' := []) rfl rfl trivial (fun c3 => ?_) (fun c3 => ?_)
    · skip
      refine wp_steps (i' := 54) (ls' := [some (.ref b), some (.int i1), w2, w3, some (.int i4), some (.int i5)]) (st' := [.int i4]) (h' := h) (P := True) 1 rfl rfl trivial ?_
      exact J _ (by rw [if_neg c3])
    · have c3 := Decidable.of_not_not c3
      refine wp_steps (i' := 52) (ls' := [some (.ref b), some (.int i1), w2, w3, some (.int i4), some (.int i5)]) (st' := [.int (if i4 < 100 then i4 else 100)]) (h' := h) (P := ((([] : List Value).map mx_cat).sum ≤ 8) ∧ True) 3 rfl rfl ⟨(Nat.le_of_ble_eq_true rfl), trivial⟩ ?_
      refine wp_J (j := 54) (st' := [.int (if i4 < 100 then i4 else 100)]) rfl rfl ?_
      exact J _ (by rw [if_pos c3])
  · have c1 := Int32.not_le.mp c1
    have H := H.1 c1
    obtain ⟨o4, H⟩ := H
    refine wp_steps (i' := 32) (ls' := [some (.ref b), some (.int i1), w2, w3, some (.int i4), some (.int i5)]) (st' := [.int i1, .int (mx_i h (b + 1) i5.toNatClampNeg)]) (h' := h) (P := ((mxT b).1 = 3 ∧ mxG h) ∧ (((mxT (b + 1)).1 = 50 ∧ mxG h) ∧ vp_in i5 (mxT (b + 1)).2) ∧ True) 5 rfl rfl ⟨⟨(congrArg Prod.fst (sL_0 hVb)), G⟩, (cA (sL_1 hVb) G o4), trivial⟩ ?_
    refine wp_br (P := True) (c := ¬ (mx_i h (b + 1) i5.toNatClampNeg) = i1) (t := 44) (st' := []) rfl rfl trivial (fun c5 => ?_) (fun c5 => ?_)
    · skip
      have H := H.2 c5
      refine wp_steps (i' := 45) (ls' := [some (.ref b), some (.int i1), w2, w3, some (.int i4), some (.int (i5 + 1))]) (st' := []) (h' := h) (P := True) 1 rfl rfl trivial ?_
      refine wp_J (j := 23) (st' := []) rfl rfl ?_
      exact H _ _
    · have c5 := Decidable.of_not_not c5
      have H := H.1 c5
      refine wp_steps (i' := 35) (ls' := [some (.ref b), some (.int i1), w2, w3, some (.int i4), some (.int i5)]) (st' := [.int i5, .ref b]) (h' := h) (P := True) 2 rfl rfl trivial ?_
      obtain ⟨o6, H⟩ := H
      refine wp_call (b := false) (y' := 27) (as := [.ref b, .int i5]) (rest := []) (P := ((mxT b).1 = mxRc 27 ∧ mxG h)) rfl (by with_unfolding_all rfl) ⟨(congrArg Prod.fst (sL_0 hVb)), G⟩ (Nat.le_of_ble_eq_true rfl) (sp_27 G hVb o6 ?_)
      intro x7 h8 p9
      show mx_wp (d + 2) 24 36 [some (.ref b), some (.int i1), w2, w3, some (.int i4), some (.int i5)] [.int x7] h8 Q
      have H := H x7 h8 p9
      have G10 : mxG h8 := mxU_G p9.1 G
      have J : ∀ (v11 : Int32) (ev11 : v11 = ((if x7 = 0 then i4 else (i4 + (mx_i h8 (b + 2) i5.toNatClampNeg))) : Int32)), mx_wp (d + 2) 24 44 [some (.ref b), some (.int i1), w2, w3, some (.int v11), some (.int i5)] [] h8 Q := by
        intro v11 ev11
        have H := H v11 ev11
        refine wp_steps (i' := 45) (ls' := [some (.ref b), some (.int i1), w2, w3, some (.int v11), some (.int (i5 + 1))]) (st' := []) (h' := h8) (P := True) 1 rfl rfl trivial ?_
        refine wp_J (j := 23) (st' := []) rfl rfl ?_
        exact H _ _
      refine wp_br (P := True) (c := x7 = 0) (t := 44) (st' := []) rfl rfl trivial (fun c12 => ?_) (fun c12 => ?_)
      · skip
        exact J _ (by rw [if_pos c12])
      · skip
        refine wp_steps (i' := 44) (ls' := [some (.ref b), some (.int i1), w2, w3, some (.int (i4 + (mx_i h8 (b + 2) i5.toNatClampNeg))), some (.int i5)]) (st' := []) (h' := h8) (P := ((mxT b).1 = 3 ∧ mxG h8) ∧ (((mxT (b + 2)).1 = 50 ∧ mxG h8) ∧ vp_in i5 (mxT (b + 2)).2) ∧ True) 7 rfl rfl ⟨⟨(congrArg Prod.fst (sL_0 hVb)), G10⟩, (cA (sL_2 hVb) G10 o4), trivial⟩ ?_
        exact J _ (by rw [if_neg c12])
