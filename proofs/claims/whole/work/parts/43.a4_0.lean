/-! 143: StoneBacks.lend(III)I -/
set_option maxRecDepth 8000 in
theorem tr_143_0 {d : Nat} {h : mxH} {Q : mxO → mxH → Prop} {i1 : Int32} {i2 : Int32} {i3 : Int32} {vn vd vr vq : Nat} (G : mxG h) (S : mxS h vn vd vr vq) (H : (((isI i1 (mx_i h (vn + 1) 0)) → (((isI i2 (mx_i h (vn + 1) 0)) → ((i1 = i2 → Q (.inr 0) (mx_ex h)) ∧ (¬ i1 = i2 → ((i3 < 1 → Q (.inr 0) (mx_ex h)) ∧ (¬ i3 < 1 → ((40 < i3 → Q (.inr 0) (mx_ex h)) ∧ (¬ 40 < i3 → (((V_67 h vn) = 0 → (vp_in i1 6 ∧ (((mx_i h (vn + 2) i1.toNatClampNeg) < i3 → Q (.inr 4) (mx_ex h)) ∧ (¬ (mx_i h (vn + 2) i1.toNatClampNeg) < i3 → (cB (mx_i h 100 12) 11 ∧ cB (mx_i h 100 13) 12 ∧ (∀ (h12 : mxH), rmC vn h h12 → (vp_in i2 6 ∧ (∀ h17, h17 = W_47 h12 vn i1 i2 i3 → (cB (mx_i h17 (vn + 7) 0) 10 ∧ (∀ (x23 : Int32) (h24 : mxH), adS vn i3 i2 i1 i2 h17 x23 h24 → (vp_in x23 10 ∧ (((mx_i h24 (vn + 13) 0) < 60 → (vp_in ((mx_i h24 (vn + 13) 0) * 4) 240 ∧ (vp_in (((mx_i h24 (vn + 13) 0) * 4) + 1) 240 ∧ (vp_in (((mx_i h24 (vn + 13) 0) * 4) + 2) 240 ∧ (vp_in (((mx_i h24 (vn + 13) 0) * 4) + 3) 240 ∧ True))))) ∧ (¬ (mx_i h24 (vn + 13) 0) < 60 → (vp_in ((mx_i (mx_wi (mx_wrow h24 (vn + 14) (va_cpy (mx_i h24 (vn + 14)) (mx_i h24 (vn + 14)) 4 0 236)) (vn + 13) 0 59) (vn + 13) 0) * 4) 240 ∧ (vp_in (((mx_i (mx_wi (mx_wrow h24 (vn + 14) (va_cpy (mx_i h24 (vn + 14)) (mx_i h24 (vn + 14)) 4 0 236)) (vn + 13) 0 59) (vn + 13) 0) * 4) + 1) 240 ∧ (vp_in (((mx_i (mx_wi (mx_wrow h24 (vn + 14) (va_cpy (mx_i h24 (vn + 14)) (mx_i h24 (vn + 14)) 4 0 236)) (vn + 13) 0 59) (vn + 13) 0) * 4) + 2) 240 ∧ (vp_in (((mx_i (mx_wi (mx_wrow h24 (vn + 14) (va_cpy (mx_i h24 (vn + 14)) (mx_i h24 (vn + 14)) 4 0 236)) (vn + 13) 0 59) (vn + 13) 0) * 4) + 3) 240 ∧ True)))))) ∧ (∀ h30, h30 = W_104 h24 vn x23 (0 : Int32) → Q (.inl (some (.int x23))) h30)))))))))))) ∧ (¬ (V_67 h vn) = 0 → Q (.inr 4) (mx_ex h)))))))))) ∧ (¬ (isI i2 (mx_i h (vn + 1) 0)) → Q (.inr 2) (mx_ex h)))) ∧ (¬ (isI i1 (mx_i h (vn + 1) 0)) → Q (.inr 2) (mx_ex h)))) : mx_wp (d + 3) 143 0 (mx_fr 143 [.ref 100, .int i1, .int i2, .int i3]) [] h Q := by
  show mx_wp (d + 3) 143 0 [some (.ref 100), some (.int i1), some (.int i2), some (.int i3), none] [] h Q
  refine wp_steps (i' := 2) (ls' := [some (.ref 100), some (.int i1), some (.int i2), some (.int i3), none]) (st' := [.int i1, .ref 100]) (h' := h) (P := True) 2 rfl rfl trivial ?_
  refine wp_call (b := false) (y' := 184) (as := [.ref 100, .int i1]) (rest := []) (P := ((mxT 100).1 = mxRc 184 ∧ mxG h)) rfl (by with_unfolding_all rfl) ⟨(congrArg Prod.fst sT_100), G⟩ (Nat.le_of_ble_eq_true rfl) (sp_184 G S (fun c1 => ?_) (fun c1 => H.2 c1))
  show mx_wp (d + 3) 143 3 [some (.ref 100), some (.int i1), some (.int i2), some (.int i3), none] [] h Q
  have H := H.1 c1
  refine wp_steps (i' := 5) (ls' := [some (.ref 100), some (.int i1), some (.int i2), some (.int i3), none]) (st' := [.int i2, .ref 100]) (h' := h) (P := True) 2 rfl rfl trivial ?_
  refine wp_call (b := false) (y' := 184) (as := [.ref 100, .int i2]) (rest := []) (P := ((mxT 100).1 = mxRc 184 ∧ mxG h)) rfl (by with_unfolding_all rfl) ⟨(congrArg Prod.fst sT_100), G⟩ (Nat.le_of_ble_eq_true rfl) (sp_184 G S (fun c2 => ?_) (fun c2 => H.2 c2))
  show mx_wp (d + 3) 143 6 [some (.ref 100), some (.int i1), some (.int i2), some (.int i3), none] [] h Q
  have H := H.1 c2
  refine wp_steps (i' := 8) (ls' := [some (.ref 100), some (.int i1), some (.int i2), some (.int i3), none]) (st' := [.int i2, .int i1]) (h' := h) (P := True) 2 rfl rfl trivial ?_
  refine wp_br (P := True) (c := i1 = i2) (t := 15) (st' := []) rfl rfl trivial (fun c3 => ?_) (fun c3 => ?_)
  · skip
    have H := H.1 c3
    exact wp_end (o := .inr 0) (h' := mx_ex h) (P := mx_c h = 292 ∧ (([] : List Value).map mx_cat).sum ≤ 8) rfl rfl ⟨G.1, Nat.le_of_ble_eq_true rfl⟩ H
  · skip
    have H := H.2 c3
    refine wp_steps (i' := 11) (ls' := [some (.ref 100), some (.int i1), some (.int i2), some (.int i3), none]) (st' := [.int 1, .int i3]) (h' := h) (P := True) 2 rfl rfl trivial ?_
    refine wp_br (P := True) (c := i3 < 1) (t := 15) (st' := []) rfl rfl trivial (fun c4 => ?_) (fun c4 => ?_)
    · skip
      have H := H.1 c4
      exact wp_end (o := .inr 0) (h' := mx_ex h) (P := mx_c h = 292 ∧ (([] : List Value).map mx_cat).sum ≤ 8) rfl rfl ⟨G.1, Nat.le_of_ble_eq_true rfl⟩ H
    · skip
      have H := H.2 c4
      refine wp_steps (i' := 14) (ls' := [some (.ref 100), some (.int i1), some (.int i2), some (.int i3), none]) (st' := [.int 40, .int i3]) (h' := h) (P := True) 2 rfl rfl trivial ?_
      refine wp_br (P := True) (c := i3 ≤ 40) (t := 20) (st' := []) rfl rfl trivial (fun c5 => ?_) (fun c5 => ?_)
      · have c5 := Int32.not_lt.mpr c5
        have H := H.2 c5
        refine wp_steps (i' := 22) (ls' := [some (.ref 100), some (.int i1), some (.int i2), some (.int i3), none]) (st' := [.ref (mx_r h 100 4)]) (h' := h) (P := ((mxT 100).1 = 10 ∧ mxG h) ∧ True) 2 rfl rfl ⟨⟨(congrArg Prod.fst sT_100), G⟩, trivial⟩ ?_
        rw [mxS_4 S]
        refine wp_steps (i' := 23) (ls' := [some (.ref 100), some (.int i1), some (.int i2), some (.int i3), none]) (st' := [.ref (vn + 7)]) (h' := h) (P := ((mxT vn).1 = 9 ∧ mxG h) ∧ True) 1 rfl rfl ⟨⟨(congrArg Prod.fst (sV_0 (mxS_vn S))), G⟩, trivial⟩ ?_
        refine wp_call (b := false) (y' := 67) (as := [.ref (vn + 7)]) (rest := []) (P := ((mxT (vn + 7)).1 = mxRc 67 ∧ mxG h)) rfl (by with_unfolding_all rfl) ⟨(congrArg Prod.fst (sV_7 (mxS_vn S))), G⟩ (Nat.le_of_ble_eq_true rfl) (sp_67 G (mxS_vn S) ?_)
        show mx_wp (d + 3) 143 24 [some (.ref 100), some (.int i1), some (.int i2), some (.int i3), none] [.int (V_67 h vn)] h Q
        refine wp_br (P := True) (c := ¬ (V_67 h vn) = 0) (t := 33) (st' := []) rfl rfl trivial (fun c6 => ?_) (fun c6 => ?_)
        · skip
          have H := H.2 c6
          exact wp_end (o := .inr 4) (h' := mx_ex h) (P := mx_c h = 292 ∧ (([] : List Value).map mx_cat).sum ≤ 8) rfl rfl ⟨G.1, Nat.le_of_ble_eq_true rfl⟩ H
        · have c6 := Decidable.of_not_not c6
          have H := H.1 c6
          refine wp_steps (i' := 27) (ls' := [some (.ref 100), some (.int i1), some (.int i2), some (.int i3), none]) (st' := [.ref (mx_r h 100 4)]) (h' := h) (P := ((mxT 100).1 = 10 ∧ mxG h) ∧ True) 2 rfl rfl ⟨⟨(congrArg Prod.fst sT_100), G⟩, trivial⟩ ?_
          rw [mxS_4 S]
          obtain ⟨o7, H⟩ := H
          refine wp_steps (i' := 32) (ls' := [some (.ref 100), some (.int i1), some (.int i2), some (.int i3), none]) (st' := [.int i3, .int (mx_i h (vn + 2) i1.toNatClampNeg)]) (h' := h) (P := ((mxT vn).1 = 9 ∧ mxG h) ∧ ((mxT (vn + 1)).1 = 5 ∧ mxG h) ∧ (((mxT (vn + 2)).1 = 50 ∧ mxG h) ∧ vp_in i1 (mxT (vn + 2)).2) ∧ True) 5 rfl rfl ⟨⟨(congrArg Prod.fst (sV_0 (mxS_vn S))), G⟩, ⟨(congrArg Prod.fst (sV_1 (mxS_vn S))), G⟩, (cA (sV_2 (mxS_vn S)) G o7), trivial⟩ ?_
          refine wp_br (P := True) (c := i3 ≤ (mx_i h (vn + 2) i1.toNatClampNeg)) (t := 38) (st' := []) rfl rfl trivial (fun c8 => ?_) (fun c8 => ?_)
          · have c8 := Int32.not_lt.mpr c8
            have H := H.2 c8
            refine wp_steps (i' := 39) (ls' := [some (.ref 100), some (.int i1), some (.int i2), some (.int i3), none]) (st' := [.ref 100]) (h' := h) (P := True) 1 rfl rfl trivial ?_
            obtain ⟨o9, o10, H⟩ := H
            refine wp_call (b := false) (y' := 182) (as := [.ref 100]) (rest := []) (P := ((mxT 100).1 = mxRc 182 ∧ mxG h)) rfl (by with_unfolding_all rfl) ⟨(congrArg Prod.fst sT_100), G⟩ (Nat.le_of_ble_eq_true rfl) (sp_182 G S o9 o10 ?_)
            intro h12 p13
            show mx_wp (d + 3) 143 40 [some (.ref 100), some (.int i1), some (.int i2), some (.int i3), none] [] h12 Q
            have H := H h12 p13
            have G14 : mxG h12 := mxU_G p13.1 G
            have S15 := mxS_of (mxU_r p13.1) S
            refine wp_steps (i' := 42) (ls' := [some (.ref 100), some (.int i1), some (.int i2), some (.int i3), none]) (st' := [.ref (mx_r h12 100 4)]) (h' := h12) (P := ((mxT 100).1 = 10 ∧ mxG h12) ∧ True) 2 rfl rfl ⟨⟨(congrArg Prod.fst sT_100), G14⟩, trivial⟩ ?_
            rw [mxS_4 S15]
            refine wp_steps (i' := 46) (ls' := [some (.ref 100), some (.int i1), some (.int i2), some (.int i3), none]) (st' := [.int i3, .int i2, .int i1, .ref (vn + 1)]) (h' := h12) (P := ((mxT vn).1 = 9 ∧ mxG h12) ∧ True) 4 rfl rfl ⟨⟨(congrArg Prod.fst (sV_0 (mxS_vn S))), G14⟩, trivial⟩ ?_
            obtain ⟨o16, H⟩ := H
            refine wp_call (b := false) (y' := 47) (as := [.ref (vn + 1), .int i1, .int i2, .int i3]) (rest := []) (P := ((mxT (vn + 1)).1 = mxRc 47 ∧ mxG h12)) rfl (by with_unfolding_all rfl) ⟨(congrArg Prod.fst (sV_1 (mxS_vn S))), G14⟩ (Nat.le_of_ble_eq_true rfl) (sp_47 G14 (mxS_vn S) o7 o16 ?_)
            show mx_wp (d + 3) 143 47 [some (.ref 100), some (.int i1), some (.int i2), some (.int i3), none] [] (W_47 h12 vn i1 i2 i3) Q
            obtain ⟨h17, e18⟩ : ∃ z9, z9 = W_47 h12 vn i1 i2 i3 := ⟨_, rfl⟩
            rw [← e18]
            have H := H h17 e18
            have K20 : mxK h12 h17 := e18 ▸ KW_47
            have G19 : mxG h17 := mxK_G K20 G14
            have S21 := mxK_S K20 S15
            refine wp_steps (i' := 49) (ls' := [some (.ref 100), some (.int i1), some (.int i2), some (.int i3), none]) (st' := [.ref (mx_r h17 100 4)]) (h' := h17) (P := ((mxT 100).1 = 10 ∧ mxG h17) ∧ True) 2 rfl rfl ⟨⟨(congrArg Prod.fst sT_100), G19⟩, trivial⟩ ?_
            rw [mxS_4 S21]
            refine wp_steps (i' := 54) (ls' := [some (.ref 100), some (.int i1), some (.int i2), some (.int i3), none]) (st' := [.int i2, .int i1, .int i2, .int i3, .ref (vn + 7)]) (h' := h17) (P := ((mxT vn).1 = 9 ∧ mxG h17) ∧ True) 5 rfl rfl ⟨⟨(congrArg Prod.fst (sV_0 (mxS_vn S))), G19⟩, trivial⟩ ?_
            obtain ⟨o22, H⟩ := H
            refine wp_call (b := false) (y' := 68) (as := [.ref (vn + 7), .int i3, .int i2, .int i1, .int i2]) (rest := []) (P := ((mxT (vn + 7)).1 = mxRc 68 ∧ mxG h17)) rfl (by with_unfolding_all rfl) ⟨(congrArg Prod.fst (sV_7 (mxS_vn S))), G19⟩ (Nat.le_of_ble_eq_true rfl) (spn_68 G19 (mxS_vn S) o22 ?_)
            intro x23 h24 p25
            show mx_wp (d + 3) 143 55 [some (.ref 100), some (.int i1), some (.int i2), some (.int i3), none] [.int x23] h24 Q
            have H := H x23 h24 p25
            have G26 : mxG h24 := mxU_G p25.1 G19
            have S27 := mxS_of (mxU_r p25.1) S21
            refine wp_steps (i' := 58) (ls' := [some (.ref 100), some (.int i1), some (.int i2), some (.int i3), some (.int x23)]) (st' := [.ref (mx_r h24 100 4)]) (h' := h24) (P := ((mxT 100).1 = 10 ∧ mxG h24) ∧ True) 3 rfl rfl ⟨⟨(congrArg Prod.fst sT_100), G26⟩, trivial⟩ ?_
            rw [mxS_4 S27]
            refine wp_steps (i' := 60) (ls' := [some (.ref 100), some (.int i1), some (.int i2), some (.int i3), some (.int x23)]) (st' := [.int 0, .int x23, .ref vn]) (h' := h24) (P := True) 2 rfl rfl trivial ?_
            obtain ⟨o28, o29, H⟩ := H
            refine wp_call (b := false) (y' := 104) (as := [.ref vn, .int x23, .int 0]) (rest := []) (P := ((mxT vn).1 = mxRc 104 ∧ mxG h24)) rfl (by with_unfolding_all rfl) ⟨(congrArg Prod.fst (sV_0 (mxS_vn S))), G26⟩ (Nat.le_of_ble_eq_true rfl) (sp_104 G26 (mxS_vn S) o28 o29 ?_)
            show mx_wp (d + 3) 143 61 [some (.ref 100), some (.int i1), some (.int i2), some (.int i3), some (.int x23)] [] (W_104 h24 vn x23 (0 : Int32)) Q
            obtain ⟨h30, e31⟩ : ∃ z9, z9 = W_104 h24 vn x23 (0 : Int32) := ⟨_, rfl⟩
            rw [← e31]
            have H := H h30 e31
            have K33 : mxK h24 h30 := e31 ▸ KW_104
            have G32 : mxG h30 := mxK_G K33 G26
            have S34 := mxK_S K33 S27
            refine wp_steps (i' := 62) (ls' := [some (.ref 100), some (.int i1), some (.int i2), some (.int i3), some (.int x23)]) (st' := [.int x23]) (h' := h30) (P := True) 1 rfl rfl trivial ?_
            exact wp_end (o := .inl (some (.int x23))) (h' := h30) (P := True) rfl rfl trivial H
          · have c8 := Int32.not_le.mp c8
            have H := H.1 c8
            exact wp_end (o := .inr 4) (h' := mx_ex h) (P := mx_c h = 292 ∧ (([] : List Value).map mx_cat).sum ≤ 8) rfl rfl ⟨G.1, Nat.le_of_ble_eq_true rfl⟩ H
      · have c5 := Int32.not_le.mp c5
        have H := H.1 c5
        exact wp_end (o := .inr 0) (h' := mx_ex h) (P := mx_c h = 292 ∧ (([] : List Value).map mx_cat).sum ≤ 8) rfl rfl ⟨G.1, Nat.le_of_ble_eq_true rfl⟩ H
/-! 144: StoneBacks.pay(I)I -/
set_option maxRecDepth 8000 in
theorem tr_144_0 {d : Nat} {h : mxH} {Q : mxO → mxH → Prop} {i1 : Int32} {vn vd vr vq : Nat} (G : mxG h) (S : mxS h vn vd vr vq) (H : (((isI i1 (mx_i h (vn + 7) 0)) → (vp_in i1 10 ∧ (((mx_i h (vn + 11) i1.toNatClampNeg) = 2 → Q (.inr 4) (mx_ex h)) ∧ (¬ (mx_i h (vn + 11) i1.toNatClampNeg) = 2 → (vp_in (mx_i h (vn + 8) i1.toNatClampNeg) 6 ∧ (((mx_i h (vn + 2) (mx_i h (vn + 8) i1.toNatClampNeg).toNatClampNeg) < (mx_i h (vn + 10) i1.toNatClampNeg) → Q (.inr 4) (mx_ex h)) ∧ (¬ (mx_i h (vn + 2) (mx_i h (vn + 8) i1.toNatClampNeg).toNatClampNeg) < (mx_i h (vn + 10) i1.toNatClampNeg) → (cB (mx_i h 100 12) 11 ∧ cB (mx_i h 100 13) 12 ∧ (∀ (h9 : mxH), rmC vn h h9 → ((((mx_i h9 (vn + 13) 0) < 60 → (vp_in ((mx_i h9 (vn + 13) 0) * 4) 240 ∧ (vp_in (((mx_i h9 (vn + 13) 0) * 4) + 1) 240 ∧ (vp_in (((mx_i h9 (vn + 13) 0) * 4) + 2) 240 ∧ (vp_in (((mx_i h9 (vn + 13) 0) * 4) + 3) 240 ∧ True))))) ∧ (¬ (mx_i h9 (vn + 13) 0) < 60 → (vp_in ((mx_i (mx_wi (mx_wrow h9 (vn + 14) (va_cpy (mx_i h9 (vn + 14)) (mx_i h9 (vn + 14)) 4 0 236)) (vn + 13) 0 59) (vn + 13) 0) * 4) 240 ∧ (vp_in (((mx_i (mx_wi (mx_wrow h9 (vn + 14) (va_cpy (mx_i h9 (vn + 14)) (mx_i h9 (vn + 14)) 4 0 236)) (vn + 13) 0 59) (vn + 13) 0) * 4) + 1) 240 ∧ (vp_in (((mx_i (mx_wi (mx_wrow h9 (vn + 14) (va_cpy (mx_i h9 (vn + 14)) (mx_i h9 (vn + 14)) 4 0 236)) (vn + 13) 0 59) (vn + 13) 0) * 4) + 2) 240 ∧ (vp_in (((mx_i (mx_wi (mx_wrow h9 (vn + 14) (va_cpy (mx_i h9 (vn + 14)) (mx_i h9 (vn + 14)) 4 0 236)) (vn + 13) 0 59) (vn + 13) 0) * 4) + 3) 240 ∧ True)))))) ∧ (∀ h14, h14 = W_104 h9 vn i1 (1 : Int32) → (vp_in (mx_i h14 (vn + 9) i1.toNatClampNeg) 6 ∧ (∀ h20, h20 = W_47 h14 vn (mx_i h (vn + 8) i1.toNatClampNeg) (mx_i h14 (vn + 9) i1.toNatClampNeg) (mx_i h (vn + 10) i1.toNatClampNeg) → (∀ h25, h25 = mx_wi h20 (vn + 11) i1.toNatClampNeg 2 → Q (.inl (some (.int (mx_i h25 (vn + 2) (mx_i h (vn + 8) i1.toNatClampNeg).toNatClampNeg)))) h25)))))))))))))) ∧ (¬ (isI i1 (mx_i h (vn + 7) 0)) → Q (.inr 2) (mx_ex h)))) : mx_wp (d + 3) 144 0 (mx_fr 144 [.ref 100, .int i1]) [] h Q := by
  show mx_wp (d + 3) 144 0 [some (.ref 100), some (.int i1), none, none] [] h Q
  refine wp_steps (i' := 2) (ls' := [some (.ref 100), some (.int i1), none, none]) (st' := [.int i1, .ref 100]) (h' := h) (P := True) 2 rfl rfl trivial ?_
  refine wp_call (b := false) (y' := 185) (as := [.ref 100, .int i1]) (rest := []) (P := ((mxT 100).1 = mxRc 185 ∧ mxG h)) rfl (by with_unfolding_all rfl) ⟨(congrArg Prod.fst sT_100), G⟩ (Nat.le_of_ble_eq_true rfl) (sp_185 G S (fun c1 => ?_) (fun c1 => H.2 c1))
  show mx_wp (d + 3) 144 3 [some (.ref 100), some (.int i1), none, none] [] h Q
  have H := H.1 c1
  refine wp_steps (i' := 5) (ls' := [some (.ref 100), some (.int i1), none, none]) (st' := [.ref (mx_r h 100 4)]) (h' := h) (P := ((mxT 100).1 = 10 ∧ mxG h) ∧ True) 2 rfl rfl ⟨⟨(congrArg Prod.fst sT_100), G⟩, trivial⟩ ?_
  rw [mxS_4 S]
  obtain ⟨o2, H⟩ := H
  refine wp_steps (i' := 12) (ls' := [some (.ref 100), some (.int i1), some (.int (mx_i h (vn + 8) i1.toNatClampNeg)), none]) (st' := [.ref (mx_r h 100 4)]) (h' := h) (P := ((mxT vn).1 = 9 ∧ mxG h) ∧ ((mxT (vn + 7)).1 = 7 ∧ mxG h) ∧ (((mxT (vn + 8)).1 = 50 ∧ mxG h) ∧ vp_in i1 (mxT (vn + 8)).2) ∧ ((mxT 100).1 = 10 ∧ mxG h) ∧ True) 7 rfl rfl ⟨⟨(congrArg Prod.fst (sV_0 (mxS_vn S))), G⟩, ⟨(congrArg Prod.fst (sV_7 (mxS_vn S))), G⟩, (cA (sV_8 (mxS_vn S)) G o2), ⟨(congrArg Prod.fst sT_100), G⟩, trivial⟩ ?_
  rw [mxS_4 S]
  refine wp_steps (i' := 19) (ls' := [some (.ref 100), some (.int i1), some (.int (mx_i h (vn + 8) i1.toNatClampNeg)), some (.int (mx_i h (vn + 10) i1.toNatClampNeg))]) (st' := [.ref (mx_r h 100 4)]) (h' := h) (P := ((mxT vn).1 = 9 ∧ mxG h) ∧ ((mxT (vn + 7)).1 = 7 ∧ mxG h) ∧ (((mxT (vn + 10)).1 = 50 ∧ mxG h) ∧ vp_in i1 (mxT (vn + 10)).2) ∧ ((mxT 100).1 = 10 ∧ mxG h) ∧ True) 7 rfl rfl ⟨⟨(congrArg Prod.fst (sV_0 (mxS_vn S))), G⟩, ⟨(congrArg Prod.fst (sV_7 (mxS_vn S))), G⟩, (cA (sV_10 (mxS_vn S)) G o2), ⟨(congrArg Prod.fst sT_100), G⟩, trivial⟩ ?_
  rw [mxS_4 S]
  refine wp_steps (i' := 24) (ls' := [some (.ref 100), some (.int i1), some (.int (mx_i h (vn + 8) i1.toNatClampNeg)), some (.int (mx_i h (vn + 10) i1.toNatClampNeg))]) (st' := [.int 2, .int (mx_i h (vn + 11) i1.toNatClampNeg)]) (h' := h) (P := ((mxT vn).1 = 9 ∧ mxG h) ∧ ((mxT (vn + 7)).1 = 7 ∧ mxG h) ∧ (((mxT (vn + 11)).1 = 50 ∧ mxG h) ∧ vp_in i1 (mxT (vn + 11)).2) ∧ True) 5 rfl rfl ⟨⟨(congrArg Prod.fst (sV_0 (mxS_vn S))), G⟩, ⟨(congrArg Prod.fst (sV_7 (mxS_vn S))), G⟩, (cA (sV_11 (mxS_vn S)) G o2), trivial⟩ ?_
  refine wp_br (P := True) (c := (mx_i h (vn + 11) i1.toNatClampNeg) = 2) (t := 33) (st' := []) rfl rfl trivial (fun c3 => ?_) (fun c3 => ?_)
  · skip
    have H := H.1 c3
    exact wp_end (o := .inr 4) (h' := mx_ex h) (P := mx_c h = 292 ∧ (([] : List Value).map mx_cat).sum ≤ 8) rfl rfl ⟨G.1, Nat.le_of_ble_eq_true rfl⟩ H
  · skip
    have H := H.2 c3
    refine wp_steps (i' := 27) (ls' := [some (.ref 100), some (.int i1), some (.int (mx_i h (vn + 8) i1.toNatClampNeg)), some (.int (mx_i h (vn + 10) i1.toNatClampNeg))]) (st' := [.ref (mx_r h 100 4)]) (h' := h) (P := ((mxT 100).1 = 10 ∧ mxG h) ∧ True) 2 rfl rfl ⟨⟨(congrArg Prod.fst sT_100), G⟩, trivial⟩ ?_
    rw [mxS_4 S]
    obtain ⟨o4, H⟩ := H
    refine wp_steps (i' := 32) (ls' := [some (.ref 100), some (.int i1), some (.int (mx_i h (vn + 8) i1.toNatClampNeg)), some (.int (mx_i h (vn + 10) i1.toNatClampNeg))]) (st' := [.int (mx_i h (vn + 10) i1.toNatClampNeg), .int (mx_i h (vn + 2) (mx_i h (vn + 8) i1.toNatClampNeg).toNatClampNeg)]) (h' := h) (P := ((mxT vn).1 = 9 ∧ mxG h) ∧ ((mxT (vn + 1)).1 = 5 ∧ mxG h) ∧ (((mxT (vn + 2)).1 = 50 ∧ mxG h) ∧ vp_in (mx_i h (vn + 8) i1.toNatClampNeg) (mxT (vn + 2)).2) ∧ True) 5 rfl rfl ⟨⟨(congrArg Prod.fst (sV_0 (mxS_vn S))), G⟩, ⟨(congrArg Prod.fst (sV_1 (mxS_vn S))), G⟩, (cA (sV_2 (mxS_vn S)) G o4), trivial⟩ ?_
    refine wp_br (P := True) (c := (mx_i h (vn + 10) i1.toNatClampNeg) ≤ (mx_i h (vn + 2) (mx_i h (vn + 8) i1.toNatClampNeg).toNatClampNeg)) (t := 38) (st' := []) rfl rfl trivial (fun c5 => ?_) (fun c5 => ?_)
    · have c5 := Int32.not_lt.mpr c5
      have H := H.2 c5
      refine wp_steps (i' := 39) (ls' := [some (.ref 100), some (.int i1), some (.int (mx_i h (vn + 8) i1.toNatClampNeg)), some (.int (mx_i h (vn + 10) i1.toNatClampNeg))]) (st' := [.ref 100]) (h' := h) (P := True) 1 rfl rfl trivial ?_
      obtain ⟨o6, o7, H⟩ := H
      refine wp_call (b := false) (y' := 182) (as := [.ref 100]) (rest := []) (P := ((mxT 100).1 = mxRc 182 ∧ mxG h)) rfl (by with_unfolding_all rfl) ⟨(congrArg Prod.fst sT_100), G⟩ (Nat.le_of_ble_eq_true rfl) (sp_182 G S o6 o7 ?_)
      intro h9 p10
      show mx_wp (d + 3) 144 40 [some (.ref 100), some (.int i1), some (.int (mx_i h (vn + 8) i1.toNatClampNeg)), some (.int (mx_i h (vn + 10) i1.toNatClampNeg))] [] h9 Q
      have H := H h9 p10
      have G11 : mxG h9 := mxU_G p10.1 G
      have S12 := mxS_of (mxU_r p10.1) S
      refine wp_steps (i' := 42) (ls' := [some (.ref 100), some (.int i1), some (.int (mx_i h (vn + 8) i1.toNatClampNeg)), some (.int (mx_i h (vn + 10) i1.toNatClampNeg))]) (st' := [.ref (mx_r h9 100 4)]) (h' := h9) (P := ((mxT 100).1 = 10 ∧ mxG h9) ∧ True) 2 rfl rfl ⟨⟨(congrArg Prod.fst sT_100), G11⟩, trivial⟩ ?_
      rw [mxS_4 S12]
      refine wp_steps (i' := 44) (ls' := [some (.ref 100), some (.int i1), some (.int (mx_i h (vn + 8) i1.toNatClampNeg)), some (.int (mx_i h (vn + 10) i1.toNatClampNeg))]) (st' := [.int 1, .int i1, .ref vn]) (h' := h9) (P := True) 2 rfl rfl trivial ?_
      obtain ⟨o13, H⟩ := H
      refine wp_call (b := false) (y' := 104) (as := [.ref vn, .int i1, .int 1]) (rest := []) (P := ((mxT vn).1 = mxRc 104 ∧ mxG h9)) rfl (by with_unfolding_all rfl) ⟨(congrArg Prod.fst (sV_0 (mxS_vn S))), G11⟩ (Nat.le_of_ble_eq_true rfl) (sp_104 G11 (mxS_vn S) o2 o13 ?_)
      show mx_wp (d + 3) 144 45 [some (.ref 100), some (.int i1), some (.int (mx_i h (vn + 8) i1.toNatClampNeg)), some (.int (mx_i h (vn + 10) i1.toNatClampNeg))] [] (W_104 h9 vn i1 (1 : Int32)) Q
      obtain ⟨h14, e15⟩ : ∃ z9, z9 = W_104 h9 vn i1 (1 : Int32) := ⟨_, rfl⟩
      rw [← e15]
      have H := H h14 e15
      have K17 : mxK h9 h14 := e15 ▸ KW_104
      have G16 : mxG h14 := mxK_G K17 G11
      have S18 := mxK_S K17 S12
      refine wp_steps (i' := 47) (ls' := [some (.ref 100), some (.int i1), some (.int (mx_i h (vn + 8) i1.toNatClampNeg)), some (.int (mx_i h (vn + 10) i1.toNatClampNeg))]) (st' := [.ref (mx_r h14 100 4)]) (h' := h14) (P := ((mxT 100).1 = 10 ∧ mxG h14) ∧ True) 2 rfl rfl ⟨⟨(congrArg Prod.fst sT_100), G16⟩, trivial⟩ ?_
      rw [mxS_4 S18]
      refine wp_steps (i' := 51) (ls' := [some (.ref 100), some (.int i1), some (.int (mx_i h (vn + 8) i1.toNatClampNeg)), some (.int (mx_i h (vn + 10) i1.toNatClampNeg))]) (st' := [.ref (mx_r h14 100 4), .int (mx_i h (vn + 8) i1.toNatClampNeg), .ref (vn + 1)]) (h' := h14) (P := ((mxT vn).1 = 9 ∧ mxG h14) ∧ ((mxT 100).1 = 10 ∧ mxG h14) ∧ True) 4 rfl rfl ⟨⟨(congrArg Prod.fst (sV_0 (mxS_vn S))), G16⟩, ⟨(congrArg Prod.fst sT_100), G16⟩, trivial⟩ ?_
      rw [mxS_4 S18]
      refine wp_steps (i' := 56) (ls' := [some (.ref 100), some (.int i1), some (.int (mx_i h (vn + 8) i1.toNatClampNeg)), some (.int (mx_i h (vn + 10) i1.toNatClampNeg))]) (st' := [.int (mx_i h (vn + 10) i1.toNatClampNeg), .int (mx_i h14 (vn + 9) i1.toNatClampNeg), .int (mx_i h (vn + 8) i1.toNatClampNeg), .ref (vn + 1)]) (h' := h14) (P := ((mxT vn).1 = 9 ∧ mxG h14) ∧ ((mxT (vn + 7)).1 = 7 ∧ mxG h14) ∧ (((mxT (vn + 9)).1 = 50 ∧ mxG h14) ∧ vp_in i1 (mxT (vn + 9)).2) ∧ True) 5 rfl rfl ⟨⟨(congrArg Prod.fst (sV_0 (mxS_vn S))), G16⟩, ⟨(congrArg Prod.fst (sV_7 (mxS_vn S))), G16⟩, (cA (sV_9 (mxS_vn S)) G16 o2), trivial⟩ ?_
      obtain ⟨o19, H⟩ := H
      refine wp_call (b := false) (y' := 47) (as := [.ref (vn + 1), .int (mx_i h (vn + 8) i1.toNatClampNeg), .int (mx_i h14 (vn + 9) i1.toNatClampNeg), .int (mx_i h (vn + 10) i1.toNatClampNeg)]) (rest := []) (P := ((mxT (vn + 1)).1 = mxRc 47 ∧ mxG h14)) rfl (by with_unfolding_all rfl) ⟨(congrArg Prod.fst (sV_1 (mxS_vn S))), G16⟩ (Nat.le_of_ble_eq_true rfl) (sp_47 G16 (mxS_vn S) o4 o19 ?_)
      show mx_wp (d + 3) 144 57 [some (.ref 100), some (.int i1), some (.int (mx_i h (vn + 8) i1.toNatClampNeg)), some (.int (mx_i h (vn + 10) i1.toNatClampNeg))] [] (W_47 h14 vn (mx_i h (vn + 8) i1.toNatClampNeg) (mx_i h14 (vn + 9) i1.toNatClampNeg) (mx_i h (vn + 10) i1.toNatClampNeg)) Q
      obtain ⟨h20, e21⟩ : ∃ z9, z9 = W_47 h14 vn (mx_i h (vn + 8) i1.toNatClampNeg) (mx_i h14 (vn + 9) i1.toNatClampNeg) (mx_i h (vn + 10) i1.toNatClampNeg) := ⟨_, rfl⟩
      rw [← e21]
      have H := H h20 e21
      have K23 : mxK h14 h20 := e21 ▸ KW_47
      have G22 : mxG h20 := mxK_G K23 G16
      have S24 := mxK_S K23 S18
      refine wp_steps (i' := 59) (ls' := [some (.ref 100), some (.int i1), some (.int (mx_i h (vn + 8) i1.toNatClampNeg)), some (.int (mx_i h (vn + 10) i1.toNatClampNeg))]) (st' := [.ref (mx_r h20 100 4)]) (h' := h20) (P := ((mxT 100).1 = 10 ∧ mxG h20) ∧ True) 2 rfl rfl ⟨⟨(congrArg Prod.fst sT_100), G22⟩, trivial⟩ ?_
      rw [mxS_4 S24]
      refine wp_steps (i' := 64) (ls' := [some (.ref 100), some (.int i1), some (.int (mx_i h (vn + 8) i1.toNatClampNeg)), some (.int (mx_i h (vn + 10) i1.toNatClampNeg))]) (st' := []) (h' := mx_wi h20 (vn + 11) i1.toNatClampNeg 2) (P := ((mxT vn).1 = 9 ∧ mxG h20) ∧ ((mxT (vn + 7)).1 = 7 ∧ mxG h20) ∧ (((mxT (vn + 11)).1 = 50 ∧ mxG h20) ∧ vp_in i1 (mxT (vn + 11)).2) ∧ True) 5 rfl rfl ⟨⟨(congrArg Prod.fst (sV_0 (mxS_vn S))), G22⟩, ⟨(congrArg Prod.fst (sV_7 (mxS_vn S))), G22⟩, (cA (sV_11 (mxS_vn S)) G22 o2), trivial⟩ ?_
      obtain ⟨h25, e26⟩ : ∃ z9, z9 = mx_wi h20 (vn + 11) i1.toNatClampNeg 2 := ⟨_, rfl⟩
      rw [← e26]
      have H := H h25 e26
      have G27 : mxG h25 := e26 ▸ mxG_wi G22
      have S28 := e26 ▸ mxS_wi S24
      refine wp_steps (i' := 66) (ls' := [some (.ref 100), some (.int i1), some (.int (mx_i h (vn + 8) i1.toNatClampNeg)), some (.int (mx_i h (vn + 10) i1.toNatClampNeg))]) (st' := [.ref (mx_r h25 100 4)]) (h' := h25) (P := ((mxT 100).1 = 10 ∧ mxG h25) ∧ True) 2 rfl rfl ⟨⟨(congrArg Prod.fst sT_100), G27⟩, trivial⟩ ?_
      rw [mxS_4 S28]
      refine wp_steps (i' := 70) (ls' := [some (.ref 100), some (.int i1), some (.int (mx_i h (vn + 8) i1.toNatClampNeg)), some (.int (mx_i h (vn + 10) i1.toNatClampNeg))]) (st' := [.int (mx_i h25 (vn + 2) (mx_i h (vn + 8) i1.toNatClampNeg).toNatClampNeg)]) (h' := h25) (P := ((mxT vn).1 = 9 ∧ mxG h25) ∧ ((mxT (vn + 1)).1 = 5 ∧ mxG h25) ∧ (((mxT (vn + 2)).1 = 50 ∧ mxG h25) ∧ vp_in (mx_i h (vn + 8) i1.toNatClampNeg) (mxT (vn + 2)).2) ∧ True) 4 rfl rfl ⟨⟨(congrArg Prod.fst (sV_0 (mxS_vn S))), G27⟩, ⟨(congrArg Prod.fst (sV_1 (mxS_vn S))), G27⟩, (cA (sV_2 (mxS_vn S)) G27 o4), trivial⟩ ?_
      exact wp_end (o := .inl (some (.int (mx_i h25 (vn + 2) (mx_i h (vn + 8) i1.toNatClampNeg).toNatClampNeg)))) (h' := h25) (P := True) rfl rfl trivial H
    · have c5 := Int32.not_le.mp c5
      have H := H.1 c5
      exact wp_end (o := .inr 4) (h' := mx_ex h) (P := mx_c h = 292 ∧ (([] : List Value).map mx_cat).sum ≤ 8) rfl rfl ⟨G.1, Nat.le_of_ble_eq_true rfl⟩ H
/-! 145: StoneBacks.split(I)I -/
set_option maxRecDepth 8000 in
theorem tr_145_0 {d : Nat} {h : mxH} {Q : mxO → mxH → Prop} {i1 : Int32} {vn vd vr vq : Nat} (G : mxG h) (S : mxS h vn vd vr vq) (H : (((isI i1 (mx_i h (vn + 7) 0)) → (vp_in i1 10 ∧ (((mx_i h (vn + 11) i1.toNatClampNeg) = 2 → Q (.inr 4) (mx_ex h)) ∧ (¬ (mx_i h (vn + 11) i1.toNatClampNeg) = 2 → (((mx_i h (vn + 10) i1.toNatClampNeg) = 1 → Q (.inr 4) (mx_ex h)) ∧ (¬ (mx_i h (vn + 10) i1.toNatClampNeg) = 1 → (((V_67 h vn) = 0 → (cB (mx_i h 100 12) 11 ∧ cB (mx_i h 100 13) 12 ∧ (∀ (h9 : mxH), rmC vn h h9 → ((((mx_i h9 (vn + 13) 0) < 60 → (vp_in ((mx_i h9 (vn + 13) 0) * 4) 240 ∧ (vp_in (((mx_i h9 (vn + 13) 0) * 4) + 1) 240 ∧ (vp_in (((mx_i h9 (vn + 13) 0) * 4) + 2) 240 ∧ (vp_in (((mx_i h9 (vn + 13) 0) * 4) + 3) 240 ∧ True))))) ∧ (¬ (mx_i h9 (vn + 13) 0) < 60 → (vp_in ((mx_i (mx_wi (mx_wrow h9 (vn + 14) (va_cpy (mx_i h9 (vn + 14)) (mx_i h9 (vn + 14)) 4 0 236)) (vn + 13) 0 59) (vn + 13) 0) * 4) 240 ∧ (vp_in (((mx_i (mx_wi (mx_wrow h9 (vn + 14) (va_cpy (mx_i h9 (vn + 14)) (mx_i h9 (vn + 14)) 4 0 236)) (vn + 13) 0 59) (vn + 13) 0) * 4) + 1) 240 ∧ (vp_in (((mx_i (mx_wi (mx_wrow h9 (vn + 14) (va_cpy (mx_i h9 (vn + 14)) (mx_i h9 (vn + 14)) 4 0 236)) (vn + 13) 0 59) (vn + 13) 0) * 4) + 2) 240 ∧ (vp_in (((mx_i (mx_wi (mx_wrow h9 (vn + 14) (va_cpy (mx_i h9 (vn + 14)) (mx_i h9 (vn + 14)) 4 0 236)) (vn + 13) 0 59) (vn + 13) 0) * 4) + 3) 240 ∧ True)))))) ∧ (∀ h14, h14 = W_104 h9 vn i1 (2 : Int32) → (cB (mx_i h14 (vn + 7) 0) 10 ∧ isI i1 (mx_i h14 (vn + 7) 0) ∧ (∀ (x21 : Int32) (h22 : mxH), brS vn i1 h14 x21 h22 → Q (.inl (some (.int x21))) h22))))))) ∧ (¬ (V_67 h vn) = 0 → Q (.inr 4) (mx_ex h))))))))) ∧ (¬ (isI i1 (mx_i h (vn + 7) 0)) → Q (.inr 2) (mx_ex h)))) : mx_wp (d + 3) 145 0 (mx_fr 145 [.ref 100, .int i1]) [] h Q := by
  show mx_wp (d + 3) 145 0 [some (.ref 100), some (.int i1)] [] h Q
  refine wp_steps (i' := 2) (ls' := [some (.ref 100), some (.int i1)]) (st' := [.int i1, .ref 100]) (h' := h) (P := True) 2 rfl rfl trivial ?_
  refine wp_call (b := false) (y' := 185) (as := [.ref 100, .int i1]) (rest := []) (P := ((mxT 100).1 = mxRc 185 ∧ mxG h)) rfl (by with_unfolding_all rfl) ⟨(congrArg Prod.fst sT_100), G⟩ (Nat.le_of_ble_eq_true rfl) (sp_185 G S (fun c1 => ?_) (fun c1 => H.2 c1))
  show mx_wp (d + 3) 145 3 [some (.ref 100), some (.int i1)] [] h Q
  have H := H.1 c1
  refine wp_steps (i' := 5) (ls' := [some (.ref 100), some (.int i1)]) (st' := [.ref (mx_r h 100 4)]) (h' := h) (P := ((mxT 100).1 = 10 ∧ mxG h) ∧ True) 2 rfl rfl ⟨⟨(congrArg Prod.fst sT_100), G⟩, trivial⟩ ?_
  rw [mxS_4 S]
  obtain ⟨o2, H⟩ := H
  refine wp_steps (i' := 10) (ls' := [some (.ref 100), some (.int i1)]) (st' := [.int 2, .int (mx_i h (vn + 11) i1.toNatClampNeg)]) (h' := h) (P := ((mxT vn).1 = 9 ∧ mxG h) ∧ ((mxT (vn + 7)).1 = 7 ∧ mxG h) ∧ (((mxT (vn + 11)).1 = 50 ∧ mxG h) ∧ vp_in i1 (mxT (vn + 11)).2) ∧ True) 5 rfl rfl ⟨⟨(congrArg Prod.fst (sV_0 (mxS_vn S))), G⟩, ⟨(congrArg Prod.fst (sV_7 (mxS_vn S))), G⟩, (cA (sV_11 (mxS_vn S)) G o2), trivial⟩ ?_
  refine wp_br (P := True) (c := (mx_i h (vn + 11) i1.toNatClampNeg) = 2) (t := 24) (st' := []) rfl rfl trivial (fun c3 => ?_) (fun c3 => ?_)
  · skip
    have H := H.1 c3
    exact wp_end (o := .inr 4) (h' := mx_ex h) (P := mx_c h = 292 ∧ (([] : List Value).map mx_cat).sum ≤ 8) rfl rfl ⟨G.1, Nat.le_of_ble_eq_true rfl⟩ H
  · skip
    have H := H.2 c3
    refine wp_steps (i' := 13) (ls' := [some (.ref 100), some (.int i1)]) (st' := [.ref (mx_r h 100 4)]) (h' := h) (P := ((mxT 100).1 = 10 ∧ mxG h) ∧ True) 2 rfl rfl ⟨⟨(congrArg Prod.fst sT_100), G⟩, trivial⟩ ?_
    rw [mxS_4 S]
    refine wp_steps (i' := 18) (ls' := [some (.ref 100), some (.int i1)]) (st' := [.int 1, .int (mx_i h (vn + 10) i1.toNatClampNeg)]) (h' := h) (P := ((mxT vn).1 = 9 ∧ mxG h) ∧ ((mxT (vn + 7)).1 = 7 ∧ mxG h) ∧ (((mxT (vn + 10)).1 = 50 ∧ mxG h) ∧ vp_in i1 (mxT (vn + 10)).2) ∧ True) 5 rfl rfl ⟨⟨(congrArg Prod.fst (sV_0 (mxS_vn S))), G⟩, ⟨(congrArg Prod.fst (sV_7 (mxS_vn S))), G⟩, (cA (sV_10 (mxS_vn S)) G o2), trivial⟩ ?_
    refine wp_br (P := True) (c := (mx_i h (vn + 10) i1.toNatClampNeg) = 1) (t := 24) (st' := []) rfl rfl trivial (fun c4 => ?_) (fun c4 => ?_)
    · skip
      have H := H.1 c4
      exact wp_end (o := .inr 4) (h' := mx_ex h) (P := mx_c h = 292 ∧ (([] : List Value).map mx_cat).sum ≤ 8) rfl rfl ⟨G.1, Nat.le_of_ble_eq_true rfl⟩ H
    · skip
      have H := H.2 c4
      refine wp_steps (i' := 21) (ls' := [some (.ref 100), some (.int i1)]) (st' := [.ref (mx_r h 100 4)]) (h' := h) (P := ((mxT 100).1 = 10 ∧ mxG h) ∧ True) 2 rfl rfl ⟨⟨(congrArg Prod.fst sT_100), G⟩, trivial⟩ ?_
      rw [mxS_4 S]
      refine wp_steps (i' := 22) (ls' := [some (.ref 100), some (.int i1)]) (st' := [.ref (vn + 7)]) (h' := h) (P := ((mxT vn).1 = 9 ∧ mxG h) ∧ True) 1 rfl rfl ⟨⟨(congrArg Prod.fst (sV_0 (mxS_vn S))), G⟩, trivial⟩ ?_
      refine wp_call (b := false) (y' := 67) (as := [.ref (vn + 7)]) (rest := []) (P := ((mxT (vn + 7)).1 = mxRc 67 ∧ mxG h)) rfl (by with_unfolding_all rfl) ⟨(congrArg Prod.fst (sV_7 (mxS_vn S))), G⟩ (Nat.le_of_ble_eq_true rfl) (sp_67 G (mxS_vn S) ?_)
      show mx_wp (d + 3) 145 23 [some (.ref 100), some (.int i1)] [.int (V_67 h vn)] h Q
      refine wp_br (P := True) (c := (V_67 h vn) = 0) (t := 29) (st' := []) rfl rfl trivial (fun c5 => ?_) (fun c5 => ?_)
      · skip
        have H := H.1 c5
        refine wp_steps (i' := 30) (ls' := [some (.ref 100), some (.int i1)]) (st' := [.ref 100]) (h' := h) (P := True) 1 rfl rfl trivial ?_
        obtain ⟨o6, o7, H⟩ := H
        refine wp_call (b := false) (y' := 182) (as := [.ref 100]) (rest := []) (P := ((mxT 100).1 = mxRc 182 ∧ mxG h)) rfl (by with_unfolding_all rfl) ⟨(congrArg Prod.fst sT_100), G⟩ (Nat.le_of_ble_eq_true rfl) (sp_182 G S o6 o7 ?_)
        intro h9 p10
        show mx_wp (d + 3) 145 31 [some (.ref 100), some (.int i1)] [] h9 Q
        have H := H h9 p10
        have G11 : mxG h9 := mxU_G p10.1 G
        have S12 := mxS_of (mxU_r p10.1) S
        refine wp_steps (i' := 33) (ls' := [some (.ref 100), some (.int i1)]) (st' := [.ref (mx_r h9 100 4)]) (h' := h9) (P := ((mxT 100).1 = 10 ∧ mxG h9) ∧ True) 2 rfl rfl ⟨⟨(congrArg Prod.fst sT_100), G11⟩, trivial⟩ ?_
        rw [mxS_4 S12]
        refine wp_steps (i' := 35) (ls' := [some (.ref 100), some (.int i1)]) (st' := [.int 2, .int i1, .ref vn]) (h' := h9) (P := True) 2 rfl rfl trivial ?_
        obtain ⟨o13, H⟩ := H
        refine wp_call (b := false) (y' := 104) (as := [.ref vn, .int i1, .int 2]) (rest := []) (P := ((mxT vn).1 = mxRc 104 ∧ mxG h9)) rfl (by with_unfolding_all rfl) ⟨(congrArg Prod.fst (sV_0 (mxS_vn S))), G11⟩ (Nat.le_of_ble_eq_true rfl) (sp_104 G11 (mxS_vn S) o2 o13 ?_)
        show mx_wp (d + 3) 145 36 [some (.ref 100), some (.int i1)] [] (W_104 h9 vn i1 (2 : Int32)) Q
        obtain ⟨h14, e15⟩ : ∃ z9, z9 = W_104 h9 vn i1 (2 : Int32) := ⟨_, rfl⟩
        rw [← e15]
        have H := H h14 e15
        have K17 : mxK h9 h14 := e15 ▸ KW_104
        have G16 : mxG h14 := mxK_G K17 G11
        have S18 := mxK_S K17 S12
        refine wp_steps (i' := 38) (ls' := [some (.ref 100), some (.int i1)]) (st' := [.ref (mx_r h14 100 4)]) (h' := h14) (P := ((mxT 100).1 = 10 ∧ mxG h14) ∧ True) 2 rfl rfl ⟨⟨(congrArg Prod.fst sT_100), G16⟩, trivial⟩ ?_
        rw [mxS_4 S18]
        refine wp_steps (i' := 40) (ls' := [some (.ref 100), some (.int i1)]) (st' := [.int i1, .ref (vn + 7)]) (h' := h14) (P := ((mxT vn).1 = 9 ∧ mxG h14) ∧ True) 2 rfl rfl ⟨⟨(congrArg Prod.fst (sV_0 (mxS_vn S))), G16⟩, trivial⟩ ?_
        obtain ⟨o19, o20, H⟩ := H
        refine wp_call (b := false) (y' := 69) (as := [.ref (vn + 7), .int i1]) (rest := []) (P := ((mxT (vn + 7)).1 = mxRc 69 ∧ mxG h14)) rfl (by with_unfolding_all rfl) ⟨(congrArg Prod.fst (sV_7 (mxS_vn S))), G16⟩ (Nat.le_of_ble_eq_true rfl) (spn_69 G16 (mxS_vn S) o19 o20 ?_)
        intro x21 h22 p23
        show mx_wp (d + 3) 145 41 [some (.ref 100), some (.int i1)] [.int x21] h22 Q
        have H := H x21 h22 p23
        have G24 : mxG h22 := mxU_G p23.1 G16
        have S25 := mxS_of (mxU_r p23.1) S18
        exact wp_end (o := .inl (some (.int x21))) (h' := h22) (P := True) rfl rfl trivial H
      · skip
        have H := H.2 c5
        exact wp_end (o := .inr 4) (h' := mx_ex h) (P := mx_c h = 292 ∧ (([] : List Value).map mx_cat).sum ≤ 8) rfl rfl ⟨G.1, Nat.le_of_ble_eq_true rfl⟩ H
/-! 146: StoneBacks.pass(II)I -/
set_option maxRecDepth 8000 in
theorem tr_146_0 {d : Nat} {h : mxH} {Q : mxO → mxH → Prop} {i1 : Int32} {i2 : Int32} {vn vd vr vq : Nat} (G : mxG h) (S : mxS h vn vd vr vq) (H : (((isI i1 (mx_i h (vn + 7) 0)) → (((isI i2 (mx_i h (vn + 1) 0)) → (vp_in i1 10 ∧ (((V_70 h vn i1) = i2 → Q (.inr 0) (mx_ex h)) ∧ (¬ (V_70 h vn i1) = i2 → (((V_70 h vn i1) = (-1) → Q (.inr 4) (mx_ex h)) ∧ (¬ (V_70 h vn i1) = (-1) → (vp_in (V_70 h vn i1) 6 ∧ (vp_in i2 6 ∧ (((mx_i h (vn + 4) (V_70 h vn i1).toNatClampNeg) = (mx_i h (vn + 4) i2.toNatClampNeg) → (cB (mx_i h 100 12) 11 ∧ cB (mx_i h 100 13) 12 ∧ (∀ (h12 : mxH), rmC vn h h12 → ((((mx_i h12 (vn + 13) 0) < 60 → (vp_in ((mx_i h12 (vn + 13) 0) * 4) 240 ∧ (vp_in (((mx_i h12 (vn + 13) 0) * 4) + 1) 240 ∧ (vp_in (((mx_i h12 (vn + 13) 0) * 4) + 2) 240 ∧ (vp_in (((mx_i h12 (vn + 13) 0) * 4) + 3) 240 ∧ True))))) ∧ (¬ (mx_i h12 (vn + 13) 0) < 60 → (vp_in ((mx_i (mx_wi (mx_wrow h12 (vn + 14) (va_cpy (mx_i h12 (vn + 14)) (mx_i h12 (vn + 14)) 4 0 236)) (vn + 13) 0 59) (vn + 13) 0) * 4) 240 ∧ (vp_in (((mx_i (mx_wi (mx_wrow h12 (vn + 14) (va_cpy (mx_i h12 (vn + 14)) (mx_i h12 (vn + 14)) 4 0 236)) (vn + 13) 0 59) (vn + 13) 0) * 4) + 1) 240 ∧ (vp_in (((mx_i (mx_wi (mx_wrow h12 (vn + 14) (va_cpy (mx_i h12 (vn + 14)) (mx_i h12 (vn + 14)) 4 0 236)) (vn + 13) 0 59) (vn + 13) 0) * 4) + 2) 240 ∧ (vp_in (((mx_i (mx_wi (mx_wrow h12 (vn + 14) (va_cpy (mx_i h12 (vn + 14)) (mx_i h12 (vn + 14)) 4 0 236)) (vn + 13) 0 59) (vn + 13) 0) * 4) + 3) 240 ∧ True)))))) ∧ (∀ h17, h17 = W_104 h12 vn i1 (3 : Int32) → (∀ h22, h22 = mx_wi h17 (vn + 12) i1.toNatClampNeg i2 → Q (.inl (some (.int (V_70 h vn i1)))) h22)))))) ∧ (¬ (mx_i h (vn + 4) (V_70 h vn i1).toNatClampNeg) = (mx_i h (vn + 4) i2.toNatClampNeg) → Q (.inr 4) (mx_ex h))))))))))) ∧ (¬ (isI i2 (mx_i h (vn + 1) 0)) → Q (.inr 2) (mx_ex h)))) ∧ (¬ (isI i1 (mx_i h (vn + 7) 0)) → Q (.inr 2) (mx_ex h)))) : mx_wp (d + 3) 146 0 (mx_fr 146 [.ref 100, .int i1, .int i2]) [] h Q := by
  show mx_wp (d + 3) 146 0 [some (.ref 100), some (.int i1), some (.int i2), none] [] h Q
  refine wp_steps (i' := 2) (ls' := [some (.ref 100), some (.int i1), some (.int i2), none]) (st' := [.int i1, .ref 100]) (h' := h) (P := True) 2 rfl rfl trivial ?_
  refine wp_call (b := false) (y' := 185) (as := [.ref 100, .int i1]) (rest := []) (P := ((mxT 100).1 = mxRc 185 ∧ mxG h)) rfl (by with_unfolding_all rfl) ⟨(congrArg Prod.fst sT_100), G⟩ (Nat.le_of_ble_eq_true rfl) (sp_185 G S (fun c1 => ?_) (fun c1 => H.2 c1))
  show mx_wp (d + 3) 146 3 [some (.ref 100), some (.int i1), some (.int i2), none] [] h Q
  have H := H.1 c1
  refine wp_steps (i' := 5) (ls' := [some (.ref 100), some (.int i1), some (.int i2), none]) (st' := [.int i2, .ref 100]) (h' := h) (P := True) 2 rfl rfl trivial ?_
  refine wp_call (b := false) (y' := 184) (as := [.ref 100, .int i2]) (rest := []) (P := ((mxT 100).1 = mxRc 184 ∧ mxG h)) rfl (by with_unfolding_all rfl) ⟨(congrArg Prod.fst sT_100), G⟩ (Nat.le_of_ble_eq_true rfl) (sp_184 G S (fun c2 => ?_) (fun c2 => H.2 c2))
  show mx_wp (d + 3) 146 6 [some (.ref 100), some (.int i1), some (.int i2), none] [] h Q
  have H := H.1 c2
  refine wp_steps (i' := 8) (ls' := [some (.ref 100), some (.int i1), some (.int i2), none]) (st' := [.ref (mx_r h 100 4)]) (h' := h) (P := ((mxT 100).1 = 10 ∧ mxG h) ∧ True) 2 rfl rfl ⟨⟨(congrArg Prod.fst sT_100), G⟩, trivial⟩ ?_
  rw [mxS_4 S]
  refine wp_steps (i' := 10) (ls' := [some (.ref 100), some (.int i1), some (.int i2), none]) (st' := [.int i1, .ref (vn + 7)]) (h' := h) (P := ((mxT vn).1 = 9 ∧ mxG h) ∧ True) 2 rfl rfl ⟨⟨(congrArg Prod.fst (sV_0 (mxS_vn S))), G⟩, trivial⟩ ?_
  obtain ⟨o3, H⟩ := H
  refine wp_call (b := false) (y' := 70) (as := [.ref (vn + 7), .int i1]) (rest := []) (P := ((mxT (vn + 7)).1 = mxRc 70 ∧ mxG h)) rfl (by with_unfolding_all rfl) ⟨(congrArg Prod.fst (sV_7 (mxS_vn S))), G⟩ (Nat.le_of_ble_eq_true rfl) (sp_70 G (mxS_vn S) o3 ?_)
  show mx_wp (d + 3) 146 11 [some (.ref 100), some (.int i1), some (.int i2), none] [.int (V_70 h vn i1)] h Q
  refine wp_steps (i' := 14) (ls' := [some (.ref 100), some (.int i1), some (.int i2), some (.int (V_70 h vn i1))]) (st' := [.int i2, .int (V_70 h vn i1)]) (h' := h) (P := True) 3 rfl rfl trivial ?_
  refine wp_br (P := True) (c := ¬ (V_70 h vn i1) = i2) (t := 20) (st' := []) rfl rfl trivial (fun c4 => ?_) (fun c4 => ?_)
  · skip
    have H := H.2 c4
    refine wp_steps (i' := 22) (ls' := [some (.ref 100), some (.int i1), some (.int i2), some (.int (V_70 h vn i1))]) (st' := [.int (-1), .int (V_70 h vn i1)]) (h' := h) (P := True) 2 rfl rfl trivial ?_
    refine wp_br (P := True) (c := (V_70 h vn i1) = (-1)) (t := 36) (st' := []) rfl rfl trivial (fun c5 => ?_) (fun c5 => ?_)
    · skip
      have H := H.1 c5
      exact wp_end (o := .inr 4) (h' := mx_ex h) (P := mx_c h = 292 ∧ (([] : List Value).map mx_cat).sum ≤ 8) rfl rfl ⟨G.1, Nat.le_of_ble_eq_true rfl⟩ H
    · skip
      have H := H.2 c5
      refine wp_steps (i' := 25) (ls' := [some (.ref 100), some (.int i1), some (.int i2), some (.int (V_70 h vn i1))]) (st' := [.ref (mx_r h 100 4)]) (h' := h) (P := ((mxT 100).1 = 10 ∧ mxG h) ∧ True) 2 rfl rfl ⟨⟨(congrArg Prod.fst sT_100), G⟩, trivial⟩ ?_
      rw [mxS_4 S]
      obtain ⟨o6, H⟩ := H
      refine wp_steps (i' := 31) (ls' := [some (.ref 100), some (.int i1), some (.int i2), some (.int (V_70 h vn i1))]) (st' := [.ref (mx_r h 100 4), .int (mx_i h (vn + 4) (V_70 h vn i1).toNatClampNeg)]) (h' := h) (P := ((mxT vn).1 = 9 ∧ mxG h) ∧ ((mxT (vn + 1)).1 = 5 ∧ mxG h) ∧ (((mxT (vn + 4)).1 = 50 ∧ mxG h) ∧ vp_in (V_70 h vn i1) (mxT (vn + 4)).2) ∧ ((mxT 100).1 = 10 ∧ mxG h) ∧ True) 6 rfl rfl ⟨⟨(congrArg Prod.fst (sV_0 (mxS_vn S))), G⟩, ⟨(congrArg Prod.fst (sV_1 (mxS_vn S))), G⟩, (cA (sV_4 (mxS_vn S)) G o6), ⟨(congrArg Prod.fst sT_100), G⟩, trivial⟩ ?_
      rw [mxS_4 S]
      obtain ⟨o7, H⟩ := H
      refine wp_steps (i' := 35) (ls' := [some (.ref 100), some (.int i1), some (.int i2), some (.int (V_70 h vn i1))]) (st' := [.int (mx_i h (vn + 4) i2.toNatClampNeg), .int (mx_i h (vn + 4) (V_70 h vn i1).toNatClampNeg)]) (h' := h) (P := ((mxT vn).1 = 9 ∧ mxG h) ∧ ((mxT (vn + 1)).1 = 5 ∧ mxG h) ∧ (((mxT (vn + 4)).1 = 50 ∧ mxG h) ∧ vp_in i2 (mxT (vn + 4)).2) ∧ True) 4 rfl rfl ⟨⟨(congrArg Prod.fst (sV_0 (mxS_vn S))), G⟩, ⟨(congrArg Prod.fst (sV_1 (mxS_vn S))), G⟩, (cA (sV_4 (mxS_vn S)) G o7), trivial⟩ ?_
      refine wp_br (P := True) (c := (mx_i h (vn + 4) (V_70 h vn i1).toNatClampNeg) = (mx_i h (vn + 4) i2.toNatClampNeg)) (t := 41) (st' := []) rfl rfl trivial (fun c8 => ?_) (fun c8 => ?_)
      · skip
        have H := H.1 c8
        refine wp_steps (i' := 42) (ls' := [some (.ref 100), some (.int i1), some (.int i2), some (.int (V_70 h vn i1))]) (st' := [.ref 100]) (h' := h) (P := True) 1 rfl rfl trivial ?_
        obtain ⟨o9, o10, H⟩ := H
        refine wp_call (b := false) (y' := 182) (as := [.ref 100]) (rest := []) (P := ((mxT 100).1 = mxRc 182 ∧ mxG h)) rfl (by with_unfolding_all rfl) ⟨(congrArg Prod.fst sT_100), G⟩ (Nat.le_of_ble_eq_true rfl) (sp_182 G S o9 o10 ?_)
        intro h12 p13
        show mx_wp (d + 3) 146 43 [some (.ref 100), some (.int i1), some (.int i2), some (.int (V_70 h vn i1))] [] h12 Q
        have H := H h12 p13
        have G14 : mxG h12 := mxU_G p13.1 G
        have S15 := mxS_of (mxU_r p13.1) S
        refine wp_steps (i' := 45) (ls' := [some (.ref 100), some (.int i1), some (.int i2), some (.int (V_70 h vn i1))]) (st' := [.ref (mx_r h12 100 4)]) (h' := h12) (P := ((mxT 100).1 = 10 ∧ mxG h12) ∧ True) 2 rfl rfl ⟨⟨(congrArg Prod.fst sT_100), G14⟩, trivial⟩ ?_
        rw [mxS_4 S15]
        refine wp_steps (i' := 47) (ls' := [some (.ref 100), some (.int i1), some (.int i2), some (.int (V_70 h vn i1))]) (st' := [.int 3, .int i1, .ref vn]) (h' := h12) (P := True) 2 rfl rfl trivial ?_
        obtain ⟨o16, H⟩ := H
        refine wp_call (b := false) (y' := 104) (as := [.ref vn, .int i1, .int 3]) (rest := []) (P := ((mxT vn).1 = mxRc 104 ∧ mxG h12)) rfl (by with_unfolding_all rfl) ⟨(congrArg Prod.fst (sV_0 (mxS_vn S))), G14⟩ (Nat.le_of_ble_eq_true rfl) (sp_104 G14 (mxS_vn S) o3 o16 ?_)
        show mx_wp (d + 3) 146 48 [some (.ref 100), some (.int i1), some (.int i2), some (.int (V_70 h vn i1))] [] (W_104 h12 vn i1 (3 : Int32)) Q
        obtain ⟨h17, e18⟩ : ∃ z9, z9 = W_104 h12 vn i1 (3 : Int32) := ⟨_, rfl⟩
        rw [← e18]
        have H := H h17 e18
        have K20 : mxK h12 h17 := e18 ▸ KW_104
        have G19 : mxG h17 := mxK_G K20 G14
        have S21 := mxK_S K20 S15
        refine wp_steps (i' := 50) (ls' := [some (.ref 100), some (.int i1), some (.int i2), some (.int (V_70 h vn i1))]) (st' := [.ref (mx_r h17 100 4)]) (h' := h17) (P := ((mxT 100).1 = 10 ∧ mxG h17) ∧ True) 2 rfl rfl ⟨⟨(congrArg Prod.fst sT_100), G19⟩, trivial⟩ ?_
        rw [mxS_4 S21]
        refine wp_steps (i' := 55) (ls' := [some (.ref 100), some (.int i1), some (.int i2), some (.int (V_70 h vn i1))]) (st' := []) (h' := mx_wi h17 (vn + 12) i1.toNatClampNeg i2) (P := ((mxT vn).1 = 9 ∧ mxG h17) ∧ ((mxT (vn + 7)).1 = 7 ∧ mxG h17) ∧ (((mxT (vn + 12)).1 = 50 ∧ mxG h17) ∧ vp_in i1 (mxT (vn + 12)).2) ∧ True) 5 rfl rfl ⟨⟨(congrArg Prod.fst (sV_0 (mxS_vn S))), G19⟩, ⟨(congrArg Prod.fst (sV_7 (mxS_vn S))), G19⟩, (cA (sV_12 (mxS_vn S)) G19 o3), trivial⟩ ?_
        obtain ⟨h22, e23⟩ : ∃ z9, z9 = mx_wi h17 (vn + 12) i1.toNatClampNeg i2 := ⟨_, rfl⟩
        rw [← e23]
        have H := H h22 e23
        have G24 : mxG h22 := e23 ▸ mxG_wi G19
        have S25 := e23 ▸ mxS_wi S21
        refine wp_steps (i' := 56) (ls' := [some (.ref 100), some (.int i1), some (.int i2), some (.int (V_70 h vn i1))]) (st' := [.int (V_70 h vn i1)]) (h' := h22) (P := True) 1 rfl rfl trivial ?_
        exact wp_end (o := .inl (some (.int (V_70 h vn i1)))) (h' := h22) (P := True) rfl rfl trivial H
      · skip
        have H := H.2 c8
        exact wp_end (o := .inr 4) (h' := mx_ex h) (P := mx_c h = 292 ∧ (([] : List Value).map mx_cat).sum ≤ 8) rfl rfl ⟨G.1, Nat.le_of_ble_eq_true rfl⟩ H
  · have c4 := Decidable.of_not_not c4
    have H := H.1 c4
    exact wp_end (o := .inr 0) (h' := mx_ex h) (P := mx_c h = 292 ∧ (([] : List Value).map mx_cat).sum ≤ 8) rfl rfl ⟨G.1, Nat.le_of_ble_eq_true rfl⟩ H
/-! 147: StoneBacks.lay(I)I -/
set_option maxRecDepth 8000 in
theorem tr_147_0 {d : Nat} {h : mxH} {Q : mxO → mxH → Prop} {i1 : Int32} {vn vd vr vq : Nat} (G : mxG h) (S : mxS h vn vd vr vq) (H : (((isI i1 (mx_i h (vn + 7) 0)) → (vp_in i1 10 ∧ (((mx_i h (vn + 11) i1.toNatClampNeg) = 0 → ((((mx_i h (vn + 11) i1.toNatClampNeg) = 0 → (vp_in (mx_i h (vn + 12) i1.toNatClampNeg) 6 ∧ True)) ∧ (¬ (mx_i h (vn + 11) i1.toNatClampNeg) = 0 → True)) ∧ ((((V_105 h vn (V_108 h vn i1)) = 0 → (vp_in (mx_i h (vn + 9) i1.toNatClampNeg) 6 ∧ True)) ∧ (¬ (V_105 h vn (V_108 h vn i1)) = 0 → True)) ∧ True))) ∧ (¬ (mx_i h (vn + 11) i1.toNatClampNeg) = 0 → True)) ∧ (((V_109 h vn i1) = 0 → Q (.inr 4) (mx_ex h)) ∧ (¬ (V_109 h vn i1) = 0 → (cB (mx_i h 100 12) 11 ∧ cB (mx_i h 100 13) 12 ∧ (∀ (h8 : mxH), rmC vn h h8 → ((((mx_i h8 (vn + 13) 0) < 60 → (vp_in ((mx_i h8 (vn + 13) 0) * 4) 240 ∧ (vp_in (((mx_i h8 (vn + 13) 0) * 4) + 1) 240 ∧ (vp_in (((mx_i h8 (vn + 13) 0) * 4) + 2) 240 ∧ (vp_in (((mx_i h8 (vn + 13) 0) * 4) + 3) 240 ∧ True))))) ∧ (¬ (mx_i h8 (vn + 13) 0) < 60 → (vp_in ((mx_i (mx_wi (mx_wrow h8 (vn + 14) (va_cpy (mx_i h8 (vn + 14)) (mx_i h8 (vn + 14)) 4 0 236)) (vn + 13) 0 59) (vn + 13) 0) * 4) 240 ∧ (vp_in (((mx_i (mx_wi (mx_wrow h8 (vn + 14) (va_cpy (mx_i h8 (vn + 14)) (mx_i h8 (vn + 14)) 4 0 236)) (vn + 13) 0 59) (vn + 13) 0) * 4) + 1) 240 ∧ (vp_in (((mx_i (mx_wi (mx_wrow h8 (vn + 14) (va_cpy (mx_i h8 (vn + 14)) (mx_i h8 (vn + 14)) 4 0 236)) (vn + 13) 0 59) (vn + 13) 0) * 4) + 2) 240 ∧ (vp_in (((mx_i (mx_wi (mx_wrow h8 (vn + 14) (va_cpy (mx_i h8 (vn + 14)) (mx_i h8 (vn + 14)) 4 0 236)) (vn + 13) 0 59) (vn + 13) 0) * 4) + 3) 240 ∧ True)))))) ∧ (∀ h13, h13 = W_104 h8 vn i1 (4 : Int32) → ((((mx_i h13 (vn + 11) i1.toNatClampNeg) = 0 → (vp_in (mx_i h13 (vn + 12) i1.toNatClampNeg) 6 ∧ True)) ∧ (¬ (mx_i h13 (vn + 11) i1.toNatClampNeg) = 0 → True)) ∧ (∀ h19, h19 = mx_wi h13 (vn + 11) i1.toNatClampNeg 1 → (∀ h23, h23 = mx_wi h19 (vn + 12) i1.toNatClampNeg (V_108 h13 vn i1) → Q (.inl (some (.int (V_108 h13 vn i1)))) h23))))))))))) ∧ (¬ (isI i1 (mx_i h (vn + 7) 0)) → Q (.inr 2) (mx_ex h)))) : mx_wp (d + 3) 147 0 (mx_fr 147 [.ref 100, .int i1]) [] h Q := by
  show mx_wp (d + 3) 147 0 [some (.ref 100), some (.int i1), none] [] h Q
  refine wp_steps (i' := 2) (ls' := [some (.ref 100), some (.int i1), none]) (st' := [.int i1, .ref 100]) (h' := h) (P := True) 2 rfl rfl trivial ?_
  refine wp_call (b := false) (y' := 185) (as := [.ref 100, .int i1]) (rest := []) (P := ((mxT 100).1 = mxRc 185 ∧ mxG h)) rfl (by with_unfolding_all rfl) ⟨(congrArg Prod.fst sT_100), G⟩ (Nat.le_of_ble_eq_true rfl) (sp_185 G S (fun c1 => ?_) (fun c1 => H.2 c1))
  show mx_wp (d + 3) 147 3 [some (.ref 100), some (.int i1), none] [] h Q
  have H := H.1 c1
  refine wp_steps (i' := 5) (ls' := [some (.ref 100), some (.int i1), none]) (st' := [.ref (mx_r h 100 4)]) (h' := h) (P := ((mxT 100).1 = 10 ∧ mxG h) ∧ True) 2 rfl rfl ⟨⟨(congrArg Prod.fst sT_100), G⟩, trivial⟩ ?_
  rw [mxS_4 S]
  refine wp_steps (i' := 6) (ls' := [some (.ref 100), some (.int i1), none]) (st' := [.int i1, .ref vn]) (h' := h) (P := True) 1 rfl rfl trivial ?_
  obtain ⟨o2, o3, H⟩ := H
  refine wp_call (b := false) (y' := 109) (as := [.ref vn, .int i1]) (rest := []) (P := ((mxT vn).1 = mxRc 109 ∧ mxG h)) rfl (by with_unfolding_all rfl) ⟨(congrArg Prod.fst (sV_0 (mxS_vn S))), G⟩ (Nat.le_of_ble_eq_true rfl) (sp_109 G (mxS_vn S) o2 o3 ?_)
  show mx_wp (d + 3) 147 7 [some (.ref 100), some (.int i1), none] [.int (V_109 h vn i1)] h Q
  refine wp_br (P := True) (c := ¬ (V_109 h vn i1) = 0) (t := 13) (st' := []) rfl rfl trivial (fun c4 => ?_) (fun c4 => ?_)
  · skip
    have H := H.2 c4
    refine wp_steps (i' := 14) (ls' := [some (.ref 100), some (.int i1), none]) (st' := [.ref 100]) (h' := h) (P := True) 1 rfl rfl trivial ?_
    obtain ⟨o5, o6, H⟩ := H
    refine wp_call (b := false) (y' := 182) (as := [.ref 100]) (rest := []) (P := ((mxT 100).1 = mxRc 182 ∧ mxG h)) rfl (by with_unfolding_all rfl) ⟨(congrArg Prod.fst sT_100), G⟩ (Nat.le_of_ble_eq_true rfl) (sp_182 G S o5 o6 ?_)
    intro h8 p9
    show mx_wp (d + 3) 147 15 [some (.ref 100), some (.int i1), none] [] h8 Q
    have H := H h8 p9
    have G10 : mxG h8 := mxU_G p9.1 G
    have S11 := mxS_of (mxU_r p9.1) S
    refine wp_steps (i' := 17) (ls' := [some (.ref 100), some (.int i1), none]) (st' := [.ref (mx_r h8 100 4)]) (h' := h8) (P := ((mxT 100).1 = 10 ∧ mxG h8) ∧ True) 2 rfl rfl ⟨⟨(congrArg Prod.fst sT_100), G10⟩, trivial⟩ ?_
    rw [mxS_4 S11]
    refine wp_steps (i' := 19) (ls' := [some (.ref 100), some (.int i1), none]) (st' := [.int 4, .int i1, .ref vn]) (h' := h8) (P := True) 2 rfl rfl trivial ?_
    obtain ⟨o12, H⟩ := H
    refine wp_call (b := false) (y' := 104) (as := [.ref vn, .int i1, .int 4]) (rest := []) (P := ((mxT vn).1 = mxRc 104 ∧ mxG h8)) rfl (by with_unfolding_all rfl) ⟨(congrArg Prod.fst (sV_0 (mxS_vn S))), G10⟩ (Nat.le_of_ble_eq_true rfl) (sp_104 G10 (mxS_vn S) o2 o12 ?_)
    show mx_wp (d + 3) 147 20 [some (.ref 100), some (.int i1), none] [] (W_104 h8 vn i1 (4 : Int32)) Q
    obtain ⟨h13, e14⟩ : ∃ z9, z9 = W_104 h8 vn i1 (4 : Int32) := ⟨_, rfl⟩
    rw [← e14]
    have H := H h13 e14
    have K16 : mxK h8 h13 := e14 ▸ KW_104
    have G15 : mxG h13 := mxK_G K16 G10
    have S17 := mxK_S K16 S11
    refine wp_steps (i' := 22) (ls' := [some (.ref 100), some (.int i1), none]) (st' := [.ref (mx_r h13 100 4)]) (h' := h13) (P := ((mxT 100).1 = 10 ∧ mxG h13) ∧ True) 2 rfl rfl ⟨⟨(congrArg Prod.fst sT_100), G15⟩, trivial⟩ ?_
    rw [mxS_4 S17]
    refine wp_steps (i' := 23) (ls' := [some (.ref 100), some (.int i1), none]) (st' := [.int i1, .ref vn]) (h' := h13) (P := True) 1 rfl rfl trivial ?_
    obtain ⟨o18, H⟩ := H
    refine wp_call (b := false) (y' := 108) (as := [.ref vn, .int i1]) (rest := []) (P := ((mxT vn).1 = mxRc 108 ∧ mxG h13)) rfl (by with_unfolding_all rfl) ⟨(congrArg Prod.fst (sV_0 (mxS_vn S))), G15⟩ (Nat.le_of_ble_eq_true rfl) (sp_108 G15 (mxS_vn S) o2 o18 ?_)
    show mx_wp (d + 3) 147 24 [some (.ref 100), some (.int i1), none] [.int (V_108 h13 vn i1)] h13 Q
    refine wp_steps (i' := 27) (ls' := [some (.ref 100), some (.int i1), some (.int (V_108 h13 vn i1))]) (st' := [.ref (mx_r h13 100 4)]) (h' := h13) (P := ((mxT 100).1 = 10 ∧ mxG h13) ∧ True) 3 rfl rfl ⟨⟨(congrArg Prod.fst sT_100), G15⟩, trivial⟩ ?_
    rw [mxS_4 S17]
    refine wp_steps (i' := 32) (ls' := [some (.ref 100), some (.int i1), some (.int (V_108 h13 vn i1))]) (st' := []) (h' := mx_wi h13 (vn + 11) i1.toNatClampNeg 1) (P := ((mxT vn).1 = 9 ∧ mxG h13) ∧ ((mxT (vn + 7)).1 = 7 ∧ mxG h13) ∧ (((mxT (vn + 11)).1 = 50 ∧ mxG h13) ∧ vp_in i1 (mxT (vn + 11)).2) ∧ True) 5 rfl rfl ⟨⟨(congrArg Prod.fst (sV_0 (mxS_vn S))), G15⟩, ⟨(congrArg Prod.fst (sV_7 (mxS_vn S))), G15⟩, (cA (sV_11 (mxS_vn S)) G15 o2), trivial⟩ ?_
    obtain ⟨h19, e20⟩ : ∃ z9, z9 = mx_wi h13 (vn + 11) i1.toNatClampNeg 1 := ⟨_, rfl⟩
    rw [← e20]
    have H := H h19 e20
    have G21 : mxG h19 := e20 ▸ mxG_wi G15
    have S22 := e20 ▸ mxS_wi S17
    refine wp_steps (i' := 34) (ls' := [some (.ref 100), some (.int i1), some (.int (V_108 h13 vn i1))]) (st' := [.ref (mx_r h19 100 4)]) (h' := h19) (P := ((mxT 100).1 = 10 ∧ mxG h19) ∧ True) 2 rfl rfl ⟨⟨(congrArg Prod.fst sT_100), G21⟩, trivial⟩ ?_
    rw [mxS_4 S22]
    refine wp_steps (i' := 39) (ls' := [some (.ref 100), some (.int i1), some (.int (V_108 h13 vn i1))]) (st' := []) (h' := mx_wi h19 (vn + 12) i1.toNatClampNeg (V_108 h13 vn i1)) (P := ((mxT vn).1 = 9 ∧ mxG h19) ∧ ((mxT (vn + 7)).1 = 7 ∧ mxG h19) ∧ (((mxT (vn + 12)).1 = 50 ∧ mxG h19) ∧ vp_in i1 (mxT (vn + 12)).2) ∧ True) 5 rfl rfl ⟨⟨(congrArg Prod.fst (sV_0 (mxS_vn S))), G21⟩, ⟨(congrArg Prod.fst (sV_7 (mxS_vn S))), G21⟩, (cA (sV_12 (mxS_vn S)) G21 o2), trivial⟩ ?_
    obtain ⟨h23, e24⟩ : ∃ z9, z9 = mx_wi h19 (vn + 12) i1.toNatClampNeg (V_108 h13 vn i1) := ⟨_, rfl⟩
    rw [← e24]
    have H := H h23 e24
    have G25 : mxG h23 := e24 ▸ mxG_wi G21
    have S26 := e24 ▸ mxS_wi S22
    refine wp_steps (i' := 40) (ls' := [some (.ref 100), some (.int i1), some (.int (V_108 h13 vn i1))]) (st' := [.int (V_108 h13 vn i1)]) (h' := h23) (P := True) 1 rfl rfl trivial ?_
    exact wp_end (o := .inl (some (.int (V_108 h13 vn i1)))) (h' := h23) (P := True) rfl rfl trivial H
  · have c4 := Decidable.of_not_not c4
    have H := H.1 c4
    exact wp_end (o := .inr 4) (h' := mx_ex h) (P := mx_c h = 292 ∧ (([] : List Value).map mx_cat).sum ≤ 8) rfl rfl ⟨G.1, Nat.le_of_ble_eq_true rfl⟩ H
/-! 148: StoneBacks.lift(II)I -/
set_option maxRecDepth 8000 in
theorem tr_148_0 {d : Nat} {h : mxH} {Q : mxO → mxH → Prop} {i1 : Int32} {i2 : Int32} {vn vd vr vq : Nat} (G : mxG h) (S : mxS h vn vd vr vq) (H : (((isI i1 (mx_i h (vn + 7) 0)) → (((isI i2 (mx_i h (vn + 1) 0)) → (vp_in i1 10 ∧ (((mx_i h (vn + 11) i1.toNatClampNeg) = 1 → (vp_in i2 6 ∧ (((mx_i h (vn + 12) i1.toNatClampNeg) = (mx_i h (vn + 4) i2.toNatClampNeg) → (cB (mx_i h 100 12) 11 ∧ cB (mx_i h 100 13) 12 ∧ (∀ (h10 : mxH), rmC vn h h10 → ((((mx_i h10 (vn + 13) 0) < 60 → (vp_in ((mx_i h10 (vn + 13) 0) * 4) 240 ∧ (vp_in (((mx_i h10 (vn + 13) 0) * 4) + 1) 240 ∧ (vp_in (((mx_i h10 (vn + 13) 0) * 4) + 2) 240 ∧ (vp_in (((mx_i h10 (vn + 13) 0) * 4) + 3) 240 ∧ True))))) ∧ (¬ (mx_i h10 (vn + 13) 0) < 60 → (vp_in ((mx_i (mx_wi (mx_wrow h10 (vn + 14) (va_cpy (mx_i h10 (vn + 14)) (mx_i h10 (vn + 14)) 4 0 236)) (vn + 13) 0 59) (vn + 13) 0) * 4) 240 ∧ (vp_in (((mx_i (mx_wi (mx_wrow h10 (vn + 14) (va_cpy (mx_i h10 (vn + 14)) (mx_i h10 (vn + 14)) 4 0 236)) (vn + 13) 0 59) (vn + 13) 0) * 4) + 1) 240 ∧ (vp_in (((mx_i (mx_wi (mx_wrow h10 (vn + 14) (va_cpy (mx_i h10 (vn + 14)) (mx_i h10 (vn + 14)) 4 0 236)) (vn + 13) 0 59) (vn + 13) 0) * 4) + 2) 240 ∧ (vp_in (((mx_i (mx_wi (mx_wrow h10 (vn + 14) (va_cpy (mx_i h10 (vn + 14)) (mx_i h10 (vn + 14)) 4 0 236)) (vn + 13) 0 59) (vn + 13) 0) * 4) + 3) 240 ∧ True)))))) ∧ (∀ h15, h15 = W_104 h10 vn i1 (5 : Int32) → (∀ h20, h20 = mx_wi h15 (vn + 11) i1.toNatClampNeg 0 → (∀ h24, h24 = mx_wi h20 (vn + 12) i1.toNatClampNeg i2 → (cB (mx_i h24 (vn + 7) 0) 10 ∧ Q (.inl (some (.int (V_77 h24 vn i2)))) h24)))))))) ∧ (¬ (mx_i h (vn + 12) i1.toNatClampNeg) = (mx_i h (vn + 4) i2.toNatClampNeg) → Q (.inr 4) (mx_ex h))))) ∧ (¬ (mx_i h (vn + 11) i1.toNatClampNeg) = 1 → Q (.inr 4) (mx_ex h))))) ∧ (¬ (isI i2 (mx_i h (vn + 1) 0)) → Q (.inr 2) (mx_ex h)))) ∧ (¬ (isI i1 (mx_i h (vn + 7) 0)) → Q (.inr 2) (mx_ex h)))) : mx_wp (d + 3) 148 0 (mx_fr 148 [.ref 100, .int i1, .int i2]) [] h Q := by
  show mx_wp (d + 3) 148 0 [some (.ref 100), some (.int i1), some (.int i2)] [] h Q
  refine wp_steps (i' := 2) (ls' := [some (.ref 100), some (.int i1), some (.int i2)]) (st' := [.int i1, .ref 100]) (h' := h) (P := True) 2 rfl rfl trivial ?_
  refine wp_call (b := false) (y' := 185) (as := [.ref 100, .int i1]) (rest := []) (P := ((mxT 100).1 = mxRc 185 ∧ mxG h)) rfl (by with_unfolding_all rfl) ⟨(congrArg Prod.fst sT_100), G⟩ (Nat.le_of_ble_eq_true rfl) (sp_185 G S (fun c1 => ?_) (fun c1 => H.2 c1))
  show mx_wp (d + 3) 148 3 [some (.ref 100), some (.int i1), some (.int i2)] [] h Q
  have H := H.1 c1
  refine wp_steps (i' := 5) (ls' := [some (.ref 100), some (.int i1), some (.int i2)]) (st' := [.int i2, .ref 100]) (h' := h) (P := True) 2 rfl rfl trivial ?_
  refine wp_call (b := false) (y' := 184) (as := [.ref 100, .int i2]) (rest := []) (P := ((mxT 100).1 = mxRc 184 ∧ mxG h)) rfl (by with_unfolding_all rfl) ⟨(congrArg Prod.fst sT_100), G⟩ (Nat.le_of_ble_eq_true rfl) (sp_184 G S (fun c2 => ?_) (fun c2 => H.2 c2))
  show mx_wp (d + 3) 148 6 [some (.ref 100), some (.int i1), some (.int i2)] [] h Q
  have H := H.1 c2
  refine wp_steps (i' := 8) (ls' := [some (.ref 100), some (.int i1), some (.int i2)]) (st' := [.ref (mx_r h 100 4)]) (h' := h) (P := ((mxT 100).1 = 10 ∧ mxG h) ∧ True) 2 rfl rfl ⟨⟨(congrArg Prod.fst sT_100), G⟩, trivial⟩ ?_
  rw [mxS_4 S]
  obtain ⟨o3, H⟩ := H
  refine wp_steps (i' := 13) (ls' := [some (.ref 100), some (.int i1), some (.int i2)]) (st' := [.int 1, .int (mx_i h (vn + 11) i1.toNatClampNeg)]) (h' := h) (P := ((mxT vn).1 = 9 ∧ mxG h) ∧ ((mxT (vn + 7)).1 = 7 ∧ mxG h) ∧ (((mxT (vn + 11)).1 = 50 ∧ mxG h) ∧ vp_in i1 (mxT (vn + 11)).2) ∧ True) 5 rfl rfl ⟨⟨(congrArg Prod.fst (sV_0 (mxS_vn S))), G⟩, ⟨(congrArg Prod.fst (sV_7 (mxS_vn S))), G⟩, (cA (sV_11 (mxS_vn S)) G o3), trivial⟩ ?_
  refine wp_br (P := True) (c := ¬ (mx_i h (vn + 11) i1.toNatClampNeg) = 1) (t := 27) (st' := []) rfl rfl trivial (fun c4 => ?_) (fun c4 => ?_)
  · skip
    have H := H.2 c4
    exact wp_end (o := .inr 4) (h' := mx_ex h) (P := mx_c h = 292 ∧ (([] : List Value).map mx_cat).sum ≤ 8) rfl rfl ⟨G.1, Nat.le_of_ble_eq_true rfl⟩ H
  · have c4 := Decidable.of_not_not c4
    have H := H.1 c4
    refine wp_steps (i' := 16) (ls' := [some (.ref 100), some (.int i1), some (.int i2)]) (st' := [.ref (mx_r h 100 4)]) (h' := h) (P := ((mxT 100).1 = 10 ∧ mxG h) ∧ True) 2 rfl rfl ⟨⟨(congrArg Prod.fst sT_100), G⟩, trivial⟩ ?_
    rw [mxS_4 S]
    refine wp_steps (i' := 22) (ls' := [some (.ref 100), some (.int i1), some (.int i2)]) (st' := [.ref (mx_r h 100 4), .int (mx_i h (vn + 12) i1.toNatClampNeg)]) (h' := h) (P := ((mxT vn).1 = 9 ∧ mxG h) ∧ ((mxT (vn + 7)).1 = 7 ∧ mxG h) ∧ (((mxT (vn + 12)).1 = 50 ∧ mxG h) ∧ vp_in i1 (mxT (vn + 12)).2) ∧ ((mxT 100).1 = 10 ∧ mxG h) ∧ True) 6 rfl rfl ⟨⟨(congrArg Prod.fst (sV_0 (mxS_vn S))), G⟩, ⟨(congrArg Prod.fst (sV_7 (mxS_vn S))), G⟩, (cA (sV_12 (mxS_vn S)) G o3), ⟨(congrArg Prod.fst sT_100), G⟩, trivial⟩ ?_
    rw [mxS_4 S]
    obtain ⟨o5, H⟩ := H
    refine wp_steps (i' := 26) (ls' := [some (.ref 100), some (.int i1), some (.int i2)]) (st' := [.int (mx_i h (vn + 4) i2.toNatClampNeg), .int (mx_i h (vn + 12) i1.toNatClampNeg)]) (h' := h) (P := ((mxT vn).1 = 9 ∧ mxG h) ∧ ((mxT (vn + 1)).1 = 5 ∧ mxG h) ∧ (((mxT (vn + 4)).1 = 50 ∧ mxG h) ∧ vp_in i2 (mxT (vn + 4)).2) ∧ True) 4 rfl rfl ⟨⟨(congrArg Prod.fst (sV_0 (mxS_vn S))), G⟩, ⟨(congrArg Prod.fst (sV_1 (mxS_vn S))), G⟩, (cA (sV_4 (mxS_vn S)) G o5), trivial⟩ ?_
    refine wp_br (P := True) (c := (mx_i h (vn + 12) i1.toNatClampNeg) = (mx_i h (vn + 4) i2.toNatClampNeg)) (t := 32) (st' := []) rfl rfl trivial (fun c6 => ?_) (fun c6 => ?_)
    · skip
      have H := H.1 c6
      refine wp_steps (i' := 33) (ls' := [some (.ref 100), some (.int i1), some (.int i2)]) (st' := [.ref 100]) (h' := h) (P := True) 1 rfl rfl trivial ?_
      obtain ⟨o7, o8, H⟩ := H
      refine wp_call (b := false) (y' := 182) (as := [.ref 100]) (rest := []) (P := ((mxT 100).1 = mxRc 182 ∧ mxG h)) rfl (by with_unfolding_all rfl) ⟨(congrArg Prod.fst sT_100), G⟩ (Nat.le_of_ble_eq_true rfl) (sp_182 G S o7 o8 ?_)
      intro h10 p11
      show mx_wp (d + 3) 148 34 [some (.ref 100), some (.int i1), some (.int i2)] [] h10 Q
      have H := H h10 p11
      have G12 : mxG h10 := mxU_G p11.1 G
      have S13 := mxS_of (mxU_r p11.1) S
      refine wp_steps (i' := 36) (ls' := [some (.ref 100), some (.int i1), some (.int i2)]) (st' := [.ref (mx_r h10 100 4)]) (h' := h10) (P := ((mxT 100).1 = 10 ∧ mxG h10) ∧ True) 2 rfl rfl ⟨⟨(congrArg Prod.fst sT_100), G12⟩, trivial⟩ ?_
      rw [mxS_4 S13]
      refine wp_steps (i' := 38) (ls' := [some (.ref 100), some (.int i1), some (.int i2)]) (st' := [.int 5, .int i1, .ref vn]) (h' := h10) (P := True) 2 rfl rfl trivial ?_
      obtain ⟨o14, H⟩ := H
      refine wp_call (b := false) (y' := 104) (as := [.ref vn, .int i1, .int 5]) (rest := []) (P := ((mxT vn).1 = mxRc 104 ∧ mxG h10)) rfl (by with_unfolding_all rfl) ⟨(congrArg Prod.fst (sV_0 (mxS_vn S))), G12⟩ (Nat.le_of_ble_eq_true rfl) (sp_104 G12 (mxS_vn S) o3 o14 ?_)
      show mx_wp (d + 3) 148 39 [some (.ref 100), some (.int i1), some (.int i2)] [] (W_104 h10 vn i1 (5 : Int32)) Q
      obtain ⟨h15, e16⟩ : ∃ z9, z9 = W_104 h10 vn i1 (5 : Int32) := ⟨_, rfl⟩
      rw [← e16]
      have H := H h15 e16
      have K18 : mxK h10 h15 := e16 ▸ KW_104
      have G17 : mxG h15 := mxK_G K18 G12
      have S19 := mxK_S K18 S13
      refine wp_steps (i' := 41) (ls' := [some (.ref 100), some (.int i1), some (.int i2)]) (st' := [.ref (mx_r h15 100 4)]) (h' := h15) (P := ((mxT 100).1 = 10 ∧ mxG h15) ∧ True) 2 rfl rfl ⟨⟨(congrArg Prod.fst sT_100), G17⟩, trivial⟩ ?_
      rw [mxS_4 S19]
      refine wp_steps (i' := 46) (ls' := [some (.ref 100), some (.int i1), some (.int i2)]) (st' := []) (h' := mx_wi h15 (vn + 11) i1.toNatClampNeg 0) (P := ((mxT vn).1 = 9 ∧ mxG h15) ∧ ((mxT (vn + 7)).1 = 7 ∧ mxG h15) ∧ (((mxT (vn + 11)).1 = 50 ∧ mxG h15) ∧ vp_in i1 (mxT (vn + 11)).2) ∧ True) 5 rfl rfl ⟨⟨(congrArg Prod.fst (sV_0 (mxS_vn S))), G17⟩, ⟨(congrArg Prod.fst (sV_7 (mxS_vn S))), G17⟩, (cA (sV_11 (mxS_vn S)) G17 o3), trivial⟩ ?_
      obtain ⟨h20, e21⟩ : ∃ z9, z9 = mx_wi h15 (vn + 11) i1.toNatClampNeg 0 := ⟨_, rfl⟩
      rw [← e21]
      have H := H h20 e21
      have G22 : mxG h20 := e21 ▸ mxG_wi G17
      have S23 := e21 ▸ mxS_wi S19
      refine wp_steps (i' := 48) (ls' := [some (.ref 100), some (.int i1), some (.int i2)]) (st' := [.ref (mx_r h20 100 4)]) (h' := h20) (P := ((mxT 100).1 = 10 ∧ mxG h20) ∧ True) 2 rfl rfl ⟨⟨(congrArg Prod.fst sT_100), G22⟩, trivial⟩ ?_
      rw [mxS_4 S23]
      refine wp_steps (i' := 53) (ls' := [some (.ref 100), some (.int i1), some (.int i2)]) (st' := []) (h' := mx_wi h20 (vn + 12) i1.toNatClampNeg i2) (P := ((mxT vn).1 = 9 ∧ mxG h20) ∧ ((mxT (vn + 7)).1 = 7 ∧ mxG h20) ∧ (((mxT (vn + 12)).1 = 50 ∧ mxG h20) ∧ vp_in i1 (mxT (vn + 12)).2) ∧ True) 5 rfl rfl ⟨⟨(congrArg Prod.fst (sV_0 (mxS_vn S))), G22⟩, ⟨(congrArg Prod.fst (sV_7 (mxS_vn S))), G22⟩, (cA (sV_12 (mxS_vn S)) G22 o3), trivial⟩ ?_
      obtain ⟨h24, e25⟩ : ∃ z9, z9 = mx_wi h20 (vn + 12) i1.toNatClampNeg i2 := ⟨_, rfl⟩
      rw [← e25]
      have H := H h24 e25
      have G26 : mxG h24 := e25 ▸ mxG_wi G22
      have S27 := e25 ▸ mxS_wi S23
      refine wp_steps (i' := 55) (ls' := [some (.ref 100), some (.int i1), some (.int i2)]) (st' := [.ref (mx_r h24 100 4)]) (h' := h24) (P := ((mxT 100).1 = 10 ∧ mxG h24) ∧ True) 2 rfl rfl ⟨⟨(congrArg Prod.fst sT_100), G26⟩, trivial⟩ ?_
      rw [mxS_4 S27]
      refine wp_steps (i' := 57) (ls' := [some (.ref 100), some (.int i1), some (.int i2)]) (st' := [.int i2, .ref (vn + 7)]) (h' := h24) (P := ((mxT vn).1 = 9 ∧ mxG h24) ∧ True) 2 rfl rfl ⟨⟨(congrArg Prod.fst (sV_0 (mxS_vn S))), G26⟩, trivial⟩ ?_
      obtain ⟨o28, H⟩ := H
      refine wp_call (b := false) (y' := 77) (as := [.ref (vn + 7), .int i2]) (rest := []) (P := ((mxT (vn + 7)).1 = mxRc 77 ∧ mxG h24)) rfl (by with_unfolding_all rfl) ⟨(congrArg Prod.fst (sV_7 (mxS_vn S))), G26⟩ (Nat.le_of_ble_eq_true rfl) (sp_77 G26 (mxS_vn S) o28 ?_)
      show mx_wp (d + 3) 148 58 [some (.ref 100), some (.int i1), some (.int i2)] [.int (V_77 h24 vn i2)] h24 Q
      exact wp_end (o := .inl (some (.int (V_77 h24 vn i2)))) (h' := h24) (P := True) rfl rfl trivial H
    · skip
      have H := H.2 c6
      exact wp_end (o := .inr 4) (h' := mx_ex h) (P := mx_c h = 292 ∧ (([] : List Value).map mx_cat).sum ≤ 8) rfl rfl ⟨G.1, Nat.le_of_ble_eq_true rfl⟩ H
/-! 149: StoneBacks.goal(II)I -/
set_option maxRecDepth 8000 in
theorem tr_149_0 {d : Nat} {h : mxH} {Q : mxO → mxH → Prop} {i1 : Int32} {i2 : Int32} {vn vd vr vq : Nat} (G : mxG h) (S : mxS h vn vd vr vq) (H : (((isI i1 (mx_i h (vn + 1) 0)) → (((isI i2 12) → (cB (mx_i h 100 12) 11 ∧ cB (mx_i h 100 13) 12 ∧ (∀ (h6 : mxH), rmC vn h h6 → (vp_in i1 6 ∧ (∀ h11, h11 = mx_wi h6 (vn + 5) i1.toNatClampNeg i2 → Q (.inl (some (.int (mx_i h6 (vn + 5) i1.toNatClampNeg)))) h11))))) ∧ (¬ (isI i2 12) → Q (.inr 2) (mx_ex h)))) ∧ (¬ (isI i1 (mx_i h (vn + 1) 0)) → Q (.inr 2) (mx_ex h)))) : mx_wp (d + 3) 149 0 (mx_fr 149 [.ref 100, .int i1, .int i2]) [] h Q := by
  show mx_wp (d + 3) 149 0 [some (.ref 100), some (.int i1), some (.int i2), none] [] h Q
  refine wp_steps (i' := 2) (ls' := [some (.ref 100), some (.int i1), some (.int i2), none]) (st' := [.int i1, .ref 100]) (h' := h) (P := True) 2 rfl rfl trivial ?_
  refine wp_call (b := false) (y' := 184) (as := [.ref 100, .int i1]) (rest := []) (P := ((mxT 100).1 = mxRc 184 ∧ mxG h)) rfl (by with_unfolding_all rfl) ⟨(congrArg Prod.fst sT_100), G⟩ (Nat.le_of_ble_eq_true rfl) (sp_184 G S (fun c1 => ?_) (fun c1 => H.2 c1))
  show mx_wp (d + 3) 149 3 [some (.ref 100), some (.int i1), some (.int i2), none] [] h Q
  have H := H.1 c1
  refine wp_steps (i' := 5) (ls' := [some (.ref 100), some (.int i1), some (.int i2), none]) (st' := [.int i2, .ref 100]) (h' := h) (P := True) 2 rfl rfl trivial ?_
  refine wp_call (b := false) (y' := 186) (as := [.ref 100, .int i2]) (rest := []) (P := ((mxT 100).1 = mxRc 186 ∧ mxG h)) rfl (by with_unfolding_all rfl) ⟨(congrArg Prod.fst sT_100), G⟩ (Nat.le_of_ble_eq_true rfl) (sp_186 G S (fun c2 => ?_) (fun c2 => H.2 c2))
  show mx_wp (d + 3) 149 6 [some (.ref 100), some (.int i1), some (.int i2), none] [] h Q
  have H := H.1 c2
  refine wp_steps (i' := 7) (ls' := [some (.ref 100), some (.int i1), some (.int i2), none]) (st' := [.ref 100]) (h' := h) (P := True) 1 rfl rfl trivial ?_
  obtain ⟨o3, o4, H⟩ := H
  refine wp_call (b := false) (y' := 182) (as := [.ref 100]) (rest := []) (P := ((mxT 100).1 = mxRc 182 ∧ mxG h)) rfl (by with_unfolding_all rfl) ⟨(congrArg Prod.fst sT_100), G⟩ (Nat.le_of_ble_eq_true rfl) (sp_182 G S o3 o4 ?_)
  intro h6 p7
  show mx_wp (d + 3) 149 8 [some (.ref 100), some (.int i1), some (.int i2), none] [] h6 Q
  have H := H h6 p7
  have G8 : mxG h6 := mxU_G p7.1 G
  have S9 := mxS_of (mxU_r p7.1) S
  refine wp_steps (i' := 10) (ls' := [some (.ref 100), some (.int i1), some (.int i2), none]) (st' := [.ref (mx_r h6 100 4)]) (h' := h6) (P := ((mxT 100).1 = 10 ∧ mxG h6) ∧ True) 2 rfl rfl ⟨⟨(congrArg Prod.fst sT_100), G8⟩, trivial⟩ ?_
  rw [mxS_4 S9]
  obtain ⟨o10, H⟩ := H
  refine wp_steps (i' := 17) (ls' := [some (.ref 100), some (.int i1), some (.int i2), some (.int (mx_i h6 (vn + 5) i1.toNatClampNeg))]) (st' := [.ref (mx_r h6 100 4)]) (h' := h6) (P := ((mxT vn).1 = 9 ∧ mxG h6) ∧ ((mxT (vn + 1)).1 = 5 ∧ mxG h6) ∧ (((mxT (vn + 5)).1 = 50 ∧ mxG h6) ∧ vp_in i1 (mxT (vn + 5)).2) ∧ ((mxT 100).1 = 10 ∧ mxG h6) ∧ True) 7 rfl rfl ⟨⟨(congrArg Prod.fst (sV_0 (mxS_vn S))), G8⟩, ⟨(congrArg Prod.fst (sV_1 (mxS_vn S))), G8⟩, (cA (sV_5 (mxS_vn S)) G8 o10), ⟨(congrArg Prod.fst sT_100), G8⟩, trivial⟩ ?_
  rw [mxS_4 S9]
  refine wp_steps (i' := 22) (ls' := [some (.ref 100), some (.int i1), some (.int i2), some (.int (mx_i h6 (vn + 5) i1.toNatClampNeg))]) (st' := []) (h' := mx_wi h6 (vn + 5) i1.toNatClampNeg i2) (P := ((mxT vn).1 = 9 ∧ mxG h6) ∧ ((mxT (vn + 1)).1 = 5 ∧ mxG h6) ∧ (((mxT (vn + 5)).1 = 50 ∧ mxG h6) ∧ vp_in i1 (mxT (vn + 5)).2) ∧ True) 5 rfl rfl ⟨⟨(congrArg Prod.fst (sV_0 (mxS_vn S))), G8⟩, ⟨(congrArg Prod.fst (sV_1 (mxS_vn S))), G8⟩, (cA (sV_5 (mxS_vn S)) G8 o10), trivial⟩ ?_
  obtain ⟨h11, e12⟩ : ∃ z9, z9 = mx_wi h6 (vn + 5) i1.toNatClampNeg i2 := ⟨_, rfl⟩
  rw [← e12]
  have H := H h11 e12
  have G13 : mxG h11 := e12 ▸ mxG_wi G8
  have S14 := e12 ▸ mxS_wi S9
  refine wp_steps (i' := 23) (ls' := [some (.ref 100), some (.int i1), some (.int i2), some (.int (mx_i h6 (vn + 5) i1.toNatClampNeg))]) (st' := [.int (mx_i h6 (vn + 5) i1.toNatClampNeg)]) (h' := h11) (P := True) 1 rfl rfl trivial ?_
  exact wp_end (o := .inl (some (.int (mx_i h6 (vn + 5) i1.toNatClampNeg)))) (h' := h11) (P := True) rfl rfl trivial H
/-! 150: StoneBacks.rest(I)I -/
set_option maxRecDepth 8000 in
theorem tr_150_0 {d : Nat} {h : mxH} {Q : mxO → mxH → Prop} {i1 : Int32} {vn vd vr vq : Nat} (G : mxG h) (S : mxS h vn vd vr vq) (H : (((isI i1 (mx_i h (vn + 1) 0)) → (cB (mx_i h 100 12) 11 ∧ cB (mx_i h 100 13) 12 ∧ (∀ (h5 : mxH), rmC vn h h5 → (vp_in i1 6 ∧ (∀ h10, h10 = mx_wi h5 (vn + 6) i1.toNatClampNeg 0 → (∀ h14, h14 = W_51 h10 vn i1 → Q (.inl (some (.int (mx_i h5 (vn + 6) i1.toNatClampNeg)))) h14)))))) ∧ (¬ (isI i1 (mx_i h (vn + 1) 0)) → Q (.inr 2) (mx_ex h)))) : mx_wp (d + 3) 150 0 (mx_fr 150 [.ref 100, .int i1]) [] h Q := by
  show mx_wp (d + 3) 150 0 [some (.ref 100), some (.int i1), none] [] h Q
  refine wp_steps (i' := 2) (ls' := [some (.ref 100), some (.int i1), none]) (st' := [.int i1, .ref 100]) (h' := h) (P := True) 2 rfl rfl trivial ?_
  refine wp_call (b := false) (y' := 184) (as := [.ref 100, .int i1]) (rest := []) (P := ((mxT 100).1 = mxRc 184 ∧ mxG h)) rfl (by with_unfolding_all rfl) ⟨(congrArg Prod.fst sT_100), G⟩ (Nat.le_of_ble_eq_true rfl) (sp_184 G S (fun c1 => ?_) (fun c1 => H.2 c1))
  show mx_wp (d + 3) 150 3 [some (.ref 100), some (.int i1), none] [] h Q
  have H := H.1 c1
  refine wp_steps (i' := 4) (ls' := [some (.ref 100), some (.int i1), none]) (st' := [.ref 100]) (h' := h) (P := True) 1 rfl rfl trivial ?_
  obtain ⟨o2, o3, H⟩ := H
  refine wp_call (b := false) (y' := 182) (as := [.ref 100]) (rest := []) (P := ((mxT 100).1 = mxRc 182 ∧ mxG h)) rfl (by with_unfolding_all rfl) ⟨(congrArg Prod.fst sT_100), G⟩ (Nat.le_of_ble_eq_true rfl) (sp_182 G S o2 o3 ?_)
  intro h5 p6
  show mx_wp (d + 3) 150 5 [some (.ref 100), some (.int i1), none] [] h5 Q
  have H := H h5 p6
  have G7 : mxG h5 := mxU_G p6.1 G
  have S8 := mxS_of (mxU_r p6.1) S
  refine wp_steps (i' := 7) (ls' := [some (.ref 100), some (.int i1), none]) (st' := [.ref (mx_r h5 100 4)]) (h' := h5) (P := ((mxT 100).1 = 10 ∧ mxG h5) ∧ True) 2 rfl rfl ⟨⟨(congrArg Prod.fst sT_100), G7⟩, trivial⟩ ?_
  rw [mxS_4 S8]
  obtain ⟨o9, H⟩ := H
  refine wp_steps (i' := 14) (ls' := [some (.ref 100), some (.int i1), some (.int (mx_i h5 (vn + 6) i1.toNatClampNeg))]) (st' := [.ref (mx_r h5 100 4)]) (h' := h5) (P := ((mxT vn).1 = 9 ∧ mxG h5) ∧ ((mxT (vn + 1)).1 = 5 ∧ mxG h5) ∧ (((mxT (vn + 6)).1 = 50 ∧ mxG h5) ∧ vp_in i1 (mxT (vn + 6)).2) ∧ ((mxT 100).1 = 10 ∧ mxG h5) ∧ True) 7 rfl rfl ⟨⟨(congrArg Prod.fst (sV_0 (mxS_vn S))), G7⟩, ⟨(congrArg Prod.fst (sV_1 (mxS_vn S))), G7⟩, (cA (sV_6 (mxS_vn S)) G7 o9), ⟨(congrArg Prod.fst sT_100), G7⟩, trivial⟩ ?_
  rw [mxS_4 S8]
  refine wp_steps (i' := 19) (ls' := [some (.ref 100), some (.int i1), some (.int (mx_i h5 (vn + 6) i1.toNatClampNeg))]) (st' := []) (h' := mx_wi h5 (vn + 6) i1.toNatClampNeg 0) (P := ((mxT vn).1 = 9 ∧ mxG h5) ∧ ((mxT (vn + 1)).1 = 5 ∧ mxG h5) ∧ (((mxT (vn + 6)).1 = 50 ∧ mxG h5) ∧ vp_in i1 (mxT (vn + 6)).2) ∧ True) 5 rfl rfl ⟨⟨(congrArg Prod.fst (sV_0 (mxS_vn S))), G7⟩, ⟨(congrArg Prod.fst (sV_1 (mxS_vn S))), G7⟩, (cA (sV_6 (mxS_vn S)) G7 o9), trivial⟩ ?_
  obtain ⟨h10, e11⟩ : ∃ z9, z9 = mx_wi h5 (vn + 6) i1.toNatClampNeg 0 := ⟨_, rfl⟩
  rw [← e11]
  have H := H h10 e11
  have G12 : mxG h10 := e11 ▸ mxG_wi G7
  have S13 := e11 ▸ mxS_wi S8
  refine wp_steps (i' := 21) (ls' := [some (.ref 100), some (.int i1), some (.int (mx_i h5 (vn + 6) i1.toNatClampNeg))]) (st' := [.ref (mx_r h10 100 4)]) (h' := h10) (P := ((mxT 100).1 = 10 ∧ mxG h10) ∧ True) 2 rfl rfl ⟨⟨(congrArg Prod.fst sT_100), G12⟩, trivial⟩ ?_
  rw [mxS_4 S13]
  refine wp_steps (i' := 23) (ls' := [some (.ref 100), some (.int i1), some (.int (mx_i h5 (vn + 6) i1.toNatClampNeg))]) (st' := [.int i1, .ref (vn + 1)]) (h' := h10) (P := ((mxT vn).1 = 9 ∧ mxG h10) ∧ True) 2 rfl rfl ⟨⟨(congrArg Prod.fst (sV_0 (mxS_vn S))), G12⟩, trivial⟩ ?_
  refine wp_call (b := false) (y' := 51) (as := [.ref (vn + 1), .int i1]) (rest := []) (P := ((mxT (vn + 1)).1 = mxRc 51 ∧ mxG h10)) rfl (by with_unfolding_all rfl) ⟨(congrArg Prod.fst (sV_1 (mxS_vn S))), G12⟩ (Nat.le_of_ble_eq_true rfl) (sp_51 G12 (mxS_vn S) ?_)
  show mx_wp (d + 3) 150 24 [some (.ref 100), some (.int i1), some (.int (mx_i h5 (vn + 6) i1.toNatClampNeg))] [] (W_51 h10 vn i1) Q
  obtain ⟨h14, e15⟩ : ∃ z9, z9 = W_51 h10 vn i1 := ⟨_, rfl⟩
  rw [← e15]
  have H := H h14 e15
  have K17 : mxK h10 h14 := e15 ▸ KW_51
  have G16 : mxG h14 := mxK_G K17 G12
  have S18 := mxK_S K17 S13
  refine wp_steps (i' := 25) (ls' := [some (.ref 100), some (.int i1), some (.int (mx_i h5 (vn + 6) i1.toNatClampNeg))]) (st' := [.int (mx_i h5 (vn + 6) i1.toNatClampNeg)]) (h' := h14) (P := True) 1 rfl rfl trivial ?_
  exact wp_end (o := .inl (some (.int (mx_i h5 (vn + 6) i1.toNatClampNeg)))) (h' := h14) (P := True) rfl rfl trivial H
/-! 181: StoneBacks.back()Z -/
set_option maxRecDepth 8000 in
theorem tr_181_0 {d : Nat} {h : mxH} {Q : mxO → mxH → Prop} {vn vd vr vq : Nat} (G : mxG h) (S : mxS h vn vd vr vq) (H : (((mx_i h 100 10) = 0 → Q (.inl (some (.int 0))) h) ∧ (¬ (mx_i h 100 10) = 0 → ((∀ (h3 : mxH), cpR 0 16 vn 165 h h3 → (((mx_i h3 181 0) = 0 ∨ (mx_i h3 181 0) = 1) ∧ (∀ (h9 : mxH), cpL vr 181 h3 h9 → (∀ h13, h13 = mx_wi h9 100 13 0 → Q (.inl (some (.int 1))) h13)))))))) : mx_wp (d + 2) 181 0 (mx_fr 181 [.ref 100]) [] h Q := by
  show mx_wp (d + 2) 181 0 [some (.ref 100)] [] h Q
  refine wp_steps (i' := 2) (ls' := [some (.ref 100)]) (st' := [.int (mx_i h 100 10)]) (h' := h) (P := ((mxT 100).1 = 10 ∧ mxG h) ∧ True) 2 rfl rfl ⟨⟨(congrArg Prod.fst sT_100), G⟩, trivial⟩ ?_
  refine wp_br (P := True) (c := ¬ (mx_i h 100 10) = 0) (t := 5) (st' := []) rfl rfl trivial (fun c1 => ?_) (fun c1 => ?_)
  · skip
    have H := H.2 c1
    refine wp_steps (i' := 7) (ls' := [some (.ref 100)]) (st' := [.ref (mx_r h 100 4)]) (h' := h) (P := ((mxT 100).1 = 10 ∧ mxG h) ∧ True) 2 rfl rfl ⟨⟨(congrArg Prod.fst sT_100), G⟩, trivial⟩ ?_
    rw [mxS_4 S]
    refine wp_steps (i' := 9) (ls' := [some (.ref 100)]) (st' := [.ref 165, .ref vn]) (h' := h) (P := ((mxT 100).1 = 10 ∧ mxG h) ∧ True) 2 rfl rfl ⟨⟨(congrArg Prod.fst sT_100), G⟩, trivial⟩ ?_
    refine wp_call (b := false) (y' := 103) (as := [.ref vn, .ref 165]) (rest := []) (P := ((mxT vn).1 = mxRc 103 ∧ mxG h)) rfl (by with_unfolding_all rfl) ⟨(congrArg Prod.fst (sV_0 (mxS_vn S))), G⟩ (Nat.le_of_ble_eq_true rfl) (sp_103 G (mxS_vn S) (by decide +kernel) ?_)
    intro h3 p4
    show mx_wp (d + 2) 181 10 [some (.ref 100)] [] h3 Q
    have H := H h3 p4
    have G5 : mxG h3 := mxU_G p4.1 G
    have S6 := mxS_of (mxU_r p4.1) S
    refine wp_steps (i' := 12) (ls' := [some (.ref 100)]) (st' := [.ref (mx_r h3 100 6)]) (h' := h3) (P := ((mxT 100).1 = 10 ∧ mxG h3) ∧ True) 2 rfl rfl ⟨⟨(congrArg Prod.fst sT_100), G5⟩, trivial⟩ ?_
    rw [mxS_6 S6]
    refine wp_steps (i' := 14) (ls' := [some (.ref 100)]) (st' := [.ref 181, .ref vr]) (h' := h3) (P := ((mxT 100).1 = 10 ∧ mxG h3) ∧ True) 2 rfl rfl ⟨⟨(congrArg Prod.fst sT_100), G5⟩, trivial⟩ ?_
    obtain ⟨o7, H⟩ := H
    refine wp_call (b := false) (y' := 20) (as := [.ref vr, .ref 181]) (rest := []) (P := ((mxT vr).1 = mxRc 20 ∧ mxG h3)) rfl (by with_unfolding_all rfl) ⟨(congrArg Prod.fst (sL_0 (mxS_vr S))), G5⟩ (Nat.le_of_ble_eq_true rfl) (sp_20 G5 (mxS_vr S) (by decide +kernel) o7 ?_)
    intro h9 p10
    show mx_wp (d + 2) 181 15 [some (.ref 100)] [] h9 Q
    have H := H h9 p10
    have G11 : mxG h9 := mxU_G p10.1 G5
    have S12 := mxS_of (mxU_r p10.1) S6
    refine wp_steps (i' := 16) (ls' := [some (.ref 100)]) (st' := [.ref 100]) (h' := h9) (P := True) 1 rfl rfl trivial ?_
    refine wp_call (b := false) (y' := 183) (as := [.ref 100]) (rest := []) (P := ((mxT 100).1 = mxRc 183 ∧ mxG h9)) rfl (by with_unfolding_all rfl) ⟨(congrArg Prod.fst sT_100), G11⟩ (Nat.le_of_ble_eq_true rfl) (sp_183 G11 S12 ?_)
    show mx_wp (d + 2) 181 17 [some (.ref 100)] [] (mx_wi h9 100 13 0) Q
    obtain ⟨h13, e14⟩ : ∃ z9, z9 = mx_wi h9 100 13 0 := ⟨_, rfl⟩
    rw [← e14]
    have H := H h13 e14
    have K16 : mxK h9 h13 := e14 ▸ mxK_wi
    have G15 : mxG h13 := mxK_G K16 G11
    have S17 := mxK_S K16 S12
    refine wp_steps (i' := 18) (ls' := [some (.ref 100)]) (st' := [.int 1]) (h' := h13) (P := True) 1 rfl rfl trivial ?_
    exact wp_end (o := .inl (some (.int 1))) (h' := h13) (P := ((1 : Int32) = 0 ∨ (1 : Int32) = 1)) rfl rfl (Or.inr rfl) H
  · have c1 := Decidable.of_not_not c1
    have H := H.1 c1
    refine wp_steps (i' := 4) (ls' := [some (.ref 100)]) (st' := [.int 0]) (h' := h) (P := True) 1 rfl rfl trivial ?_
    exact wp_end (o := .inl (some (.int 0))) (h' := h) (P := ((0 : Int32) = 0 ∨ (0 : Int32) = 1)) rfl rfl (Or.inl rfl) H
