/-! 111: StoneBacks$Valley.earnOrWalk(ILStoneBacks$Law;)V -/
set_option maxRecDepth 8000 in
theorem tr_111_0 {d : Nat} {h : mxH} {Q : mxO → mxH → Prop} {a : Nat} {i1 : Int32} {b : Nat} (G : mxG h) (hVa : (mxT a).1 = 9) (hVb : (mxT b).1 = 3) (H : (vp_in i1 6 ∧ (((mx_i h (a + 4) i1.toNatClampNeg) = (mx_i h (a + 5) i1.toNatClampNeg) → (ok24 h b (1 : Int32) a i1 ∧ (∀ (x13 : Int32) (h14 : mxH), p24 b (1 : Int32) a i1 h x13 h14 → (∀ h17, h17 = W_46 h14 a i1 x13 → Q (.inl none) h17)))) ∧ (¬ (mx_i h (a + 4) i1.toNatClampNeg) = (mx_i h (a + 5) i1.toNatClampNeg) → ((((V_49 h a i1) = 0 → (vp_in i1 6 ∧ (((mx_i h (a + 6) i1.toNatClampNeg) = 99 → True) ∧ (¬ (mx_i h (a + 6) i1.toNatClampNeg) = 99 → (cB (mx_i h (a + 7) 0) 10 ∧ True))))) ∧ (¬ (V_49 h a i1) = 0 → True)) ∧ (((V_106 h a i1) = 0 → (∀ (v5 : Int32), v5 = ((if (mx_i h (a + 4) i1.toNatClampNeg) < (mx_i h (a + 5) i1.toNatClampNeg) then ((mx_i h (a + 4) i1.toNatClampNeg) + 1) else ((mx_i h (a + 4) i1.toNatClampNeg) - 1)) : Int32) → (cB (mx_i h (a + 7) 0) 10 ∧ (((V_115 h a (mx_i h (a + 4) i1.toNatClampNeg) v5 (V_77 h a i1)) = 0 → Q (.inl none) h) ∧ (¬ (V_115 h a (mx_i h (a + 4) i1.toNatClampNeg) v5 (V_77 h a i1)) = 0 → (∀ h8, h8 = mx_wi h (a + 4) i1.toNatClampNeg v5 → Q (.inl none) h8)))))) ∧ (¬ (V_106 h a i1) = 0 → Q (.inl none) h))))))) : mx_wp (d + 3) 111 0 (mx_fr 111 [.ref a, .int i1, .ref b]) [] h Q := by
  show mx_wp (d + 3) 111 0 [some (.ref a), some (.int i1), some (.ref b), none, none, none] [] h Q
  obtain ⟨o1, H⟩ := H
  refine wp_steps (i' := 14) (ls' := [some (.ref a), some (.int i1), some (.ref b), some (.int (mx_i h (a + 4) i1.toNatClampNeg)), some (.int (mx_i h (a + 5) i1.toNatClampNeg)), none]) (st' := [.int (mx_i h (a + 5) i1.toNatClampNeg), .int (mx_i h (a + 4) i1.toNatClampNeg)]) (h' := h) (P := ((mxT a).1 = 9 ∧ mxG h) ∧ ((mxT (a + 1)).1 = 5 ∧ mxG h) ∧ (((mxT (a + 4)).1 = 50 ∧ mxG h) ∧ vp_in i1 (mxT (a + 4)).2) ∧ ((mxT a).1 = 9 ∧ mxG h) ∧ ((mxT (a + 1)).1 = 5 ∧ mxG h) ∧ (((mxT (a + 5)).1 = 50 ∧ mxG h) ∧ vp_in i1 (mxT (a + 5)).2) ∧ True) 14 rfl rfl ⟨⟨(congrArg Prod.fst (sV_0 hVa)), G⟩, ⟨(congrArg Prod.fst (sV_1 hVa)), G⟩, (cA (sV_4 hVa) G o1), ⟨(congrArg Prod.fst (sV_0 hVa)), G⟩, ⟨(congrArg Prod.fst (sV_1 hVa)), G⟩, (cA (sV_5 hVa) G o1), trivial⟩ ?_
  refine wp_br (P := True) (c := ¬ (mx_i h (a + 4) i1.toNatClampNeg) = (mx_i h (a + 5) i1.toNatClampNeg)) (t := 25) (st' := []) rfl rfl trivial (fun c2 => ?_) (fun c2 => ?_)
  · skip
    have H := H.2 c2
    refine wp_steps (i' := 27) (ls' := [some (.ref a), some (.int i1), some (.ref b), some (.int (mx_i h (a + 4) i1.toNatClampNeg)), some (.int (mx_i h (a + 5) i1.toNatClampNeg)), none]) (st' := [.int i1, .ref a]) (h' := h) (P := True) 2 rfl rfl trivial ?_
    obtain ⟨o3, H⟩ := H
    refine wp_call (b := false) (y' := 106) (as := [.ref a, .int i1]) (rest := []) (P := ((mxT a).1 = mxRc 106 ∧ mxG h)) rfl (by with_unfolding_all rfl) ⟨(congrArg Prod.fst (sV_0 hVa)), G⟩ (Nat.le_of_ble_eq_true rfl) (sp_106 G hVa o3 ?_)
    show mx_wp (d + 3) 111 28 [some (.ref a), some (.int i1), some (.ref b), some (.int (mx_i h (a + 4) i1.toNatClampNeg)), some (.int (mx_i h (a + 5) i1.toNatClampNeg)), none] [.int (V_106 h a i1)] h Q
    refine wp_br (P := True) (c := ¬ (V_106 h a i1) = 0) (t := 55) (st' := []) rfl rfl trivial (fun c4 => ?_) (fun c4 => ?_)
    · skip
      have H := H.2 c4
      exact wp_end (o := .inl none) (h' := h) (P := True) rfl rfl trivial H
    · have c4 := Decidable.of_not_not c4
      have H := H.1 c4
      refine wp_steps (i' := 31) (ls' := [some (.ref a), some (.int i1), some (.ref b), some (.int (mx_i h (a + 4) i1.toNatClampNeg)), some (.int (mx_i h (a + 5) i1.toNatClampNeg)), none]) (st' := [.int (mx_i h (a + 5) i1.toNatClampNeg), .int (mx_i h (a + 4) i1.toNatClampNeg)]) (h' := h) (P := True) 2 rfl rfl trivial ?_
      have J : ∀ (v5 : Int32) (ev5 : v5 = ((if (mx_i h (a + 4) i1.toNatClampNeg) < (mx_i h (a + 5) i1.toNatClampNeg) then ((mx_i h (a + 4) i1.toNatClampNeg) + 1) else ((mx_i h (a + 4) i1.toNatClampNeg) - 1)) : Int32)), mx_wp (d + 3) 111 39 [some (.ref a), some (.int i1), some (.ref b), some (.int (mx_i h (a + 4) i1.toNatClampNeg)), some (.int (mx_i h (a + 5) i1.toNatClampNeg)), none] [.int v5] h Q := by
        intro v5 ev5
        have H := H v5 ev5
        refine wp_steps (i' := 46) (ls' := [some (.ref a), some (.int i1), some (.ref b), some (.int (mx_i h (a + 4) i1.toNatClampNeg)), some (.int (mx_i h (a + 5) i1.toNatClampNeg)), some (.int v5)]) (st' := [.int i1, .ref (a + 7), .int v5, .int (mx_i h (a + 4) i1.toNatClampNeg), .ref a]) (h' := h) (P := ((mxT a).1 = 9 ∧ mxG h) ∧ True) 7 rfl rfl ⟨⟨(congrArg Prod.fst (sV_0 hVa)), G⟩, trivial⟩ ?_
        obtain ⟨o6, H⟩ := H
        refine wp_call (b := false) (y' := 77) (as := [.ref (a + 7), .int i1]) (rest := [.int v5, .int (mx_i h (a + 4) i1.toNatClampNeg), .ref a]) (P := ((mxT (a + 7)).1 = mxRc 77 ∧ mxG h)) rfl (by with_unfolding_all rfl) ⟨(congrArg Prod.fst (sV_7 hVa)), G⟩ (Nat.le_of_ble_eq_true rfl) (sp_77 G hVa o6 ?_)
        show mx_wp (d + 3) 111 47 [some (.ref a), some (.int i1), some (.ref b), some (.int (mx_i h (a + 4) i1.toNatClampNeg)), some (.int (mx_i h (a + 5) i1.toNatClampNeg)), some (.int v5)] [.int (V_77 h a i1), .int v5, .int (mx_i h (a + 4) i1.toNatClampNeg), .ref a] h Q
        refine wp_call (b := false) (y' := 115) (as := [.ref a, .int (mx_i h (a + 4) i1.toNatClampNeg), .int v5, .int (V_77 h a i1)]) (rest := []) (P := ((mxT a).1 = mxRc 115 ∧ mxG h)) rfl (by with_unfolding_all rfl) ⟨(congrArg Prod.fst (sV_0 hVa)), G⟩ (Nat.le_of_ble_eq_true rfl) (sp_115 G hVa ?_)
        show mx_wp (d + 3) 111 48 [some (.ref a), some (.int i1), some (.ref b), some (.int (mx_i h (a + 4) i1.toNatClampNeg)), some (.int (mx_i h (a + 5) i1.toNatClampNeg)), some (.int v5)] [.int (V_115 h a (mx_i h (a + 4) i1.toNatClampNeg) v5 (V_77 h a i1))] h Q
        refine wp_br (P := True) (c := (V_115 h a (mx_i h (a + 4) i1.toNatClampNeg) v5 (V_77 h a i1)) = 0) (t := 55) (st' := []) rfl rfl trivial (fun c7 => ?_) (fun c7 => ?_)
        · skip
          have H := H.1 c7
          exact wp_end (o := .inl none) (h' := h) (P := True) rfl rfl trivial H
        · skip
          have H := H.2 c7
          refine wp_steps (i' := 55) (ls' := [some (.ref a), some (.int i1), some (.ref b), some (.int (mx_i h (a + 4) i1.toNatClampNeg)), some (.int (mx_i h (a + 5) i1.toNatClampNeg)), some (.int v5)]) (st' := []) (h' := mx_wi h (a + 4) i1.toNatClampNeg v5) (P := ((mxT a).1 = 9 ∧ mxG h) ∧ ((mxT (a + 1)).1 = 5 ∧ mxG h) ∧ (((mxT (a + 4)).1 = 50 ∧ mxG h) ∧ vp_in i1 (mxT (a + 4)).2) ∧ True) 6 rfl rfl ⟨⟨(congrArg Prod.fst (sV_0 hVa)), G⟩, ⟨(congrArg Prod.fst (sV_1 hVa)), G⟩, (cA (sV_4 hVa) G o1), trivial⟩ ?_
          obtain ⟨h8, e9⟩ : ∃ z9, z9 = mx_wi h (a + 4) i1.toNatClampNeg v5 := ⟨_, rfl⟩
          rw [← e9]
          have H := H h8 e9
          have G10 : mxG h8 := e9 ▸ mxG_wi G
          exact wp_end (o := .inl none) (h' := h8) (P := True) rfl rfl trivial H
      refine wp_br (P := True) (c := (mx_i h (a + 5) i1.toNatClampNeg) ≤ (mx_i h (a + 4) i1.toNatClampNeg)) (t := 36) (st' := []) rfl rfl trivial (fun c11 => ?_) (fun c11 => ?_)
      · have c11 := Int32.not_lt.mpr c11
        refine wp_steps (i' := 39) (ls' := [some (.ref a), some (.int i1), some (.ref b), some (.int (mx_i h (a + 4) i1.toNatClampNeg)), some (.int (mx_i h (a + 5) i1.toNatClampNeg)), none]) (st' := [.int ((mx_i h (a + 4) i1.toNatClampNeg) - 1)]) (h' := h) (P := True) 3 rfl rfl trivial ?_
        exact J _ (by rw [if_neg c11])
      · have c11 := Int32.not_le.mp c11
        refine wp_steps (i' := 35) (ls' := [some (.ref a), some (.int i1), some (.ref b), some (.int (mx_i h (a + 4) i1.toNatClampNeg)), some (.int (mx_i h (a + 5) i1.toNatClampNeg)), none]) (st' := [.int ((mx_i h (a + 4) i1.toNatClampNeg) + 1)]) (h' := h) (P := True) 3 rfl rfl trivial ?_
        refine wp_J (j := 39) (st' := [.int ((mx_i h (a + 4) i1.toNatClampNeg) + 1)]) rfl rfl ?_
        exact J _ (by rw [if_pos c11])
  · have c2 := Decidable.of_not_not c2
    have H := H.1 c2
    refine wp_steps (i' := 22) (ls' := [some (.ref a), some (.int i1), some (.ref b), some (.int (mx_i h (a + 4) i1.toNatClampNeg)), some (.int (mx_i h (a + 5) i1.toNatClampNeg)), none]) (st' := [.int i1, .ref a, .int 1, .ref b, .int i1, .ref (a + 1)]) (h' := h) (P := ((mxT a).1 = 9 ∧ mxG h) ∧ True) 7 rfl rfl ⟨⟨(congrArg Prod.fst (sV_0 hVa)), G⟩, trivial⟩ ?_
    obtain ⟨o12, H⟩ := H
    refine wp_call (b := false) (y' := 24) (as := [.ref b, .int 1, .ref a, .int i1]) (rest := [.int i1, .ref (a + 1)]) (P := ((mxT b).1 = mxRc 24 ∧ mxG h)) rfl (by with_unfolding_all rfl) ⟨(congrArg Prod.fst (sL_0 hVb)), G⟩ (Nat.le_of_ble_eq_true rfl) (sp_24 G hVb hVa o12 ?_)
    intro x13 h14 p15
    show mx_wp (d + 3) 111 23 [some (.ref a), some (.int i1), some (.ref b), some (.int (mx_i h (a + 4) i1.toNatClampNeg)), some (.int (mx_i h (a + 5) i1.toNatClampNeg)), none] [.int x13, .int i1, .ref (a + 1)] h14 Q
    have H := H x13 h14 p15
    have G16 : mxG h14 := mxU_G p15.1 G
    refine wp_call (b := false) (y' := 46) (as := [.ref (a + 1), .int i1, .int x13]) (rest := []) (P := ((mxT (a + 1)).1 = mxRc 46 ∧ mxG h14)) rfl (by with_unfolding_all rfl) ⟨(congrArg Prod.fst (sV_1 hVa)), G16⟩ (Nat.le_of_ble_eq_true rfl) (sp_46 G16 hVa o1 ?_)
    show mx_wp (d + 3) 111 24 [some (.ref a), some (.int i1), some (.ref b), some (.int (mx_i h (a + 4) i1.toNatClampNeg)), some (.int (mx_i h (a + 5) i1.toNatClampNeg)), none] [] (W_46 h14 a i1 x13) Q
    obtain ⟨h17, e18⟩ : ∃ z9, z9 = W_46 h14 a i1 x13 := ⟨_, rfl⟩
    rw [← e18]
    have H := H h17 e18
    have K20 : mxK h14 h17 := e18 ▸ KW_46
    have G19 : mxG h17 := mxK_G K20 G16
    refine wp_J (j := 55) (st' := []) rfl rfl ?_
    exact wp_end (o := .inl none) (h' := h17) (P := True) rfl rfl trivial H
/-! 112: StoneBacks$Valley.tireAndDraw(ILStoneBacks$Law;Z)Z -/
set_option maxRecDepth 8000 in
theorem tr_112_0 {d : Nat} {h : mxH} {Q : mxO → mxH → Prop} {a : Nat} {i1 : Int32} {b : Nat} {i3 : Int32} (G : mxG h) (hVa : (mxT a).1 = 9) (hVb : (mxT b).1 = 3) (H : (ok24 h b (0 : Int32) a i1 ∧ (∀ (x2 : Int32) (h3 : mxH), p24 b (0 : Int32) a i1 h x2 h3 → (vp_in i1 6 ∧ (∀ h7, h7 = mx_wi h3 (a + 6) i1.toNatClampNeg (if ((mx_i h3 (a + 6) i1.toNatClampNeg) + x2) < 99 then ((mx_i h3 (a + 6) i1.toNatClampNeg) + x2) else 99) → ((i3 = 0 → Q (.inl (some (.int 0))) h7) ∧ (¬ i3 = 0 → (∀ h11, h11 = W_113 h7 a → (ok24 h11 b (2 : Int32) a i1 ∧ (∀ (x16 : Int32) (h17 : mxH), p24 b (2 : Int32) a i1 h11 x16 h17 → (∀ (v20 : Int32), v20 = ((if ((V_113 h7 a) - (V_113 h7 a) / 100 * 100) < x16 then 1 else 0) : Int32) → Q (.inl (some (.int v20))) h17))))))))))) : mx_wp (d + 3) 112 0 (mx_fr 112 [.ref a, .int i1, .ref b, .int i3]) [] h Q := by
  show mx_wp (d + 3) 112 0 [some (.ref a), some (.int i1), some (.ref b), some (.int i3), none] [] h Q
  refine wp_steps (i' := 4) (ls' := [some (.ref a), some (.int i1), some (.ref b), some (.int i3), none]) (st' := [.int i1, .ref a, .int 0, .ref b]) (h' := h) (P := True) 4 rfl rfl trivial ?_
  obtain ⟨o1, H⟩ := H
  refine wp_call (b := false) (y' := 24) (as := [.ref b, .int 0, .ref a, .int i1]) (rest := []) (P := ((mxT b).1 = mxRc 24 ∧ mxG h)) rfl (by with_unfolding_all rfl) ⟨(congrArg Prod.fst (sL_0 hVb)), G⟩ (Nat.le_of_ble_eq_true rfl) (sp_24 G hVb hVa o1 ?_)
  intro x2 h3 p4
  show mx_wp (d + 3) 112 5 [some (.ref a), some (.int i1), some (.ref b), some (.int i3), none] [.int x2] h3 Q
  have H := H x2 h3 p4
  have G5 : mxG h3 := mxU_G p4.1 G
  obtain ⟨o6, H⟩ := H
  refine wp_steps (i' := 20) (ls' := [some (.ref a), some (.int i1), some (.ref b), some (.int i3), some (.int x2)]) (st' := []) (h' := mx_wi h3 (a + 6) i1.toNatClampNeg (if ((mx_i h3 (a + 6) i1.toNatClampNeg) + x2) < 99 then ((mx_i h3 (a + 6) i1.toNatClampNeg) + x2) else 99)) (P := ((mxT a).1 = 9 ∧ mxG h3) ∧ ((mxT (a + 1)).1 = 5 ∧ mxG h3) ∧ ((mxT a).1 = 9 ∧ mxG h3) ∧ ((mxT (a + 1)).1 = 5 ∧ mxG h3) ∧ (((mxT (a + 6)).1 = 50 ∧ mxG h3) ∧ vp_in i1 (mxT (a + 6)).2) ∧ ((([.int i1, .ref (a + 6)] : List Value).map mx_cat).sum ≤ 8) ∧ (((mxT (a + 6)).1 = 50 ∧ mxG h3) ∧ vp_in i1 (mxT (a + 6)).2) ∧ True) 15 rfl rfl ⟨⟨(congrArg Prod.fst (sV_0 hVa)), G5⟩, ⟨(congrArg Prod.fst (sV_1 hVa)), G5⟩, ⟨(congrArg Prod.fst (sV_0 hVa)), G5⟩, ⟨(congrArg Prod.fst (sV_1 hVa)), G5⟩, (cA (sV_6 hVa) G5 o6), (Nat.le_of_ble_eq_true rfl), (cA (sV_6 hVa) G5 o6), trivial⟩ ?_
  obtain ⟨h7, e8⟩ : ∃ z9, z9 = mx_wi h3 (a + 6) i1.toNatClampNeg (if ((mx_i h3 (a + 6) i1.toNatClampNeg) + x2) < 99 then ((mx_i h3 (a + 6) i1.toNatClampNeg) + x2) else 99) := ⟨_, rfl⟩
  rw [← e8]
  have H := H h7 e8
  have G9 : mxG h7 := e8 ▸ mxG_wi G5
  refine wp_steps (i' := 21) (ls' := [some (.ref a), some (.int i1), some (.ref b), some (.int i3), some (.int x2)]) (st' := [.int i3]) (h' := h7) (P := True) 1 rfl rfl trivial ?_
  refine wp_br (P := True) (c := i3 = 0) (t := 34) (st' := []) rfl rfl trivial (fun c10 => ?_) (fun c10 => ?_)
  · skip
    have H := H.1 c10
    refine wp_steps (i' := 35) (ls' := [some (.ref a), some (.int i1), some (.ref b), some (.int i3), some (.int x2)]) (st' := [.int 0]) (h' := h7) (P := True) 1 rfl rfl trivial ?_
    exact wp_end (o := .inl (some (.int 0))) (h' := h7) (P := ((0 : Int32) = 0 ∨ (0 : Int32) = 1)) rfl rfl (Or.inl rfl) H
  · skip
    have H := H.2 c10
    refine wp_steps (i' := 23) (ls' := [some (.ref a), some (.int i1), some (.ref b), some (.int i3), some (.int x2)]) (st' := [.ref a]) (h' := h7) (P := True) 1 rfl rfl trivial ?_
    refine wp_call (b := false) (y' := 113) (as := [.ref a]) (rest := []) (P := ((mxT a).1 = mxRc 113 ∧ mxG h7)) rfl (by with_unfolding_all rfl) ⟨(congrArg Prod.fst (sV_0 hVa)), G9⟩ (Nat.le_of_ble_eq_true rfl) (sp_113 G9 hVa ?_)
    show mx_wp (d + 3) 112 24 [some (.ref a), some (.int i1), some (.ref b), some (.int i3), some (.int x2)] [.int (V_113 h7 a)] (W_113 h7 a) Q
    obtain ⟨h11, e12⟩ : ∃ z9, z9 = W_113 h7 a := ⟨_, rfl⟩
    rw [← e12]
    have H := H h11 e12
    have K14 : mxK h7 h11 := e12 ▸ KW_113
    have G13 : mxG h11 := mxK_G K14 G9
    refine wp_steps (i' := 30) (ls' := [some (.ref a), some (.int i1), some (.ref b), some (.int i3), some (.int x2)]) (st' := [.int i1, .ref a, .int 2, .ref b, .int ((V_113 h7 a) - (V_113 h7 a) / 100 * 100)]) (h' := h11) (P := (¬ (100 : Int32) = 0) ∧ True) 6 rfl rfl ⟨(by decide), trivial⟩ ?_
    obtain ⟨o15, H⟩ := H
    refine wp_call (b := false) (y' := 24) (as := [.ref b, .int 2, .ref a, .int i1]) (rest := [.int ((V_113 h7 a) - (V_113 h7 a) / 100 * 100)]) (P := ((mxT b).1 = mxRc 24 ∧ mxG h11)) rfl (by with_unfolding_all rfl) ⟨(congrArg Prod.fst (sL_0 hVb)), G13⟩ (Nat.le_of_ble_eq_true rfl) (sp_24 G13 hVb hVa o15 ?_)
    intro x16 h17 p18
    show mx_wp (d + 3) 112 31 [some (.ref a), some (.int i1), some (.ref b), some (.int i3), some (.int x2)] [.int x16, .int ((V_113 h7 a) - (V_113 h7 a) / 100 * 100)] h17 Q
    have H := H x16 h17 p18
    have G19 : mxG h17 := mxU_G p18.1 G13
    have J : ∀ (v20 : Int32) (ev20 : v20 = ((if ((V_113 h7 a) - (V_113 h7 a) / 100 * 100) < x16 then 1 else 0) : Int32)), mx_wp (d + 3) 112 35 [some (.ref a), some (.int i1), some (.ref b), some (.int i3), some (.int x2)] [.int v20] h17 Q := by
      intro v20 ev20
      have H := H v20 ev20
      exact wp_end (o := .inl (some (.int v20))) (h' := h17) (P := (v20 = 0 ∨ v20 = 1)) rfl rfl (b01 ev20 (by repeat' (first | exact Or.inl rfl | exact Or.inr rfl | split))) H
    refine wp_br (P := True) (c := x16 ≤ ((V_113 h7 a) - (V_113 h7 a) / 100 * 100)) (t := 34) (st' := []) rfl rfl trivial (fun c21 => ?_) (fun c21 => ?_)
    · have c21 := Int32.not_lt.mpr c21
      refine wp_steps (i' := 35) (ls' := [some (.ref a), some (.int i1), some (.ref b), some (.int i3), some (.int x2)]) (st' := [.int 0]) (h' := h17) (P := True) 1 rfl rfl trivial ?_
      exact J _ (by rw [if_neg c21])
    · have c21 := Int32.not_le.mp c21
      refine wp_steps (i' := 33) (ls' := [some (.ref a), some (.int i1), some (.ref b), some (.int i3), some (.int x2)]) (st' := [.int 1]) (h' := h17) (P := True) 1 rfl rfl trivial ?_
      refine wp_J (j := 35) (st' := [.int 1]) rfl rfl ?_
      exact J _ (by rw [if_pos c21])
/-! 139: StoneBacks.does(II)I -/
set_option maxRecDepth 8000 in
theorem tr_139_0 {d : Nat} {h : mxH} {Q : mxO → mxH → Prop} {i1 : Int32} {i2 : Int32} {vn vd vr vq : Nat} (G : mxG h) (S : mxS h vn vd vr vq) (H : (((isI i1 (mx_i h (vn + 1) 0)) → ((i2 < 0 → Q (.inr 3) (mx_ex h)) ∧ (¬ i2 < 0 → ((2 < i2 → Q (.inr 3) (mx_ex h)) ∧ (¬ 2 < i2 → (ok24 h vr i2 vn i1 ∧ (∀ (x5 : Int32) (h6 : mxH), p24 vr i2 vn i1 h x5 h6 → Q (.inl (some (.int x5))) h6))))))) ∧ (¬ (isI i1 (mx_i h (vn + 1) 0)) → Q (.inr 2) (mx_ex h)))) : mx_wp (d + 3) 139 0 (mx_fr 139 [.ref 100, .int i1, .int i2]) [] h Q := by
  show mx_wp (d + 3) 139 0 [some (.ref 100), some (.int i1), some (.int i2)] [] h Q
  refine wp_steps (i' := 2) (ls' := [some (.ref 100), some (.int i1), some (.int i2)]) (st' := [.int i1, .ref 100]) (h' := h) (P := True) 2 rfl rfl trivial ?_
  refine wp_call (b := false) (y' := 184) (as := [.ref 100, .int i1]) (rest := []) (P := ((mxT 100).1 = mxRc 184 ∧ mxG h)) rfl (by with_unfolding_all rfl) ⟨(congrArg Prod.fst sT_100), G⟩ (Nat.le_of_ble_eq_true rfl) (sp_184 G S (fun c1 => ?_) (fun c1 => H.2 c1))
  show mx_wp (d + 3) 139 3 [some (.ref 100), some (.int i1), some (.int i2)] [] h Q
  have H := H.1 c1
  refine wp_steps (i' := 4) (ls' := [some (.ref 100), some (.int i1), some (.int i2)]) (st' := [.int i2]) (h' := h) (P := True) 1 rfl rfl trivial ?_
  refine wp_br (P := True) (c := i2 < 0) (t := 8) (st' := []) rfl rfl trivial (fun c2 => ?_) (fun c2 => ?_)
  · skip
    have H := H.1 c2
    exact wp_end (o := .inr 3) (h' := mx_ex h) (P := mx_c h = 292 ∧ (([] : List Value).map mx_cat).sum ≤ 8) rfl rfl ⟨G.1, Nat.le_of_ble_eq_true rfl⟩ H
  · skip
    have H := H.2 c2
    refine wp_steps (i' := 7) (ls' := [some (.ref 100), some (.int i1), some (.int i2)]) (st' := [.int 2, .int i2]) (h' := h) (P := True) 2 rfl rfl trivial ?_
    refine wp_br (P := True) (c := i2 ≤ 2) (t := 13) (st' := []) rfl rfl trivial (fun c3 => ?_) (fun c3 => ?_)
    · have c3 := Int32.not_lt.mpr c3
      have H := H.2 c3
      refine wp_steps (i' := 15) (ls' := [some (.ref 100), some (.int i1), some (.int i2)]) (st' := [.ref (mx_r h 100 6)]) (h' := h) (P := ((mxT 100).1 = 10 ∧ mxG h) ∧ True) 2 rfl rfl ⟨⟨(congrArg Prod.fst sT_100), G⟩, trivial⟩ ?_
      rw [mxS_6 S]
      refine wp_steps (i' := 18) (ls' := [some (.ref 100), some (.int i1), some (.int i2)]) (st' := [.ref (mx_r h 100 4), .int i2, .ref vr]) (h' := h) (P := ((mxT 100).1 = 10 ∧ mxG h) ∧ True) 3 rfl rfl ⟨⟨(congrArg Prod.fst sT_100), G⟩, trivial⟩ ?_
      rw [mxS_4 S]
      refine wp_steps (i' := 19) (ls' := [some (.ref 100), some (.int i1), some (.int i2)]) (st' := [.int i1, .ref vn, .int i2, .ref vr]) (h' := h) (P := True) 1 rfl rfl trivial ?_
      obtain ⟨o4, H⟩ := H
      refine wp_call (b := false) (y' := 24) (as := [.ref vr, .int i2, .ref vn, .int i1]) (rest := []) (P := ((mxT vr).1 = mxRc 24 ∧ mxG h)) rfl (by with_unfolding_all rfl) ⟨(congrArg Prod.fst (sL_0 (mxS_vr S))), G⟩ (Nat.le_of_ble_eq_true rfl) (sp_24 G (mxS_vr S) (mxS_vn S) o4 ?_)
      intro x5 h6 p7
      show mx_wp (d + 3) 139 20 [some (.ref 100), some (.int i1), some (.int i2)] [.int x5] h6 Q
      have H := H x5 h6 p7
      have G8 : mxG h6 := mxU_G p7.1 G
      have S9 := mxS_of (mxU_r p7.1) S
      exact wp_end (o := .inl (some (.int x5))) (h' := h6) (P := True) rfl rfl trivial H
    · have c3 := Int32.not_le.mp c3
      have H := H.1 c3
      exact wp_end (o := .inr 3) (h' := mx_ex h) (P := mx_c h = 292 ∧ (([] : List Value).map mx_cat).sum ≤ 8) rfl rfl ⟨G.1, Nat.le_of_ble_eq_true rfl⟩ H
