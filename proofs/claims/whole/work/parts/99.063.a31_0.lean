/-! 221: StoneBacksModel.valleyLine()V -/
set_option maxRecDepth 8000 in
theorem tr_221_0 {d : Nat} {h : mxH} {Q : mxO → mxH → Prop}  (G : mxG h)  (H : (okT h ∧ (∀ (x2 : Int32) (h3 : mxH), p214 h x2 h3 → (okT h3 ∧ (30 ≤ 30 ∧ 30 < 82 ∧ 30 % 2 = 0) ∧ (∀ (x8 : Int32) (h9 : mxH), p212 30 h3 x8 h9 → ((x8 = 0 → (okT h9 ∧ (30 ≤ 36 ∧ 36 < 82 ∧ 36 % 2 = 0) ∧ (∀ (x15 : Int32) (h16 : mxH), p212 36 h9 x15 h16 → ((x15 = 0 → (okT h16 ∧ (30 ≤ 76 ∧ 76 < 82 ∧ 76 % 2 = 0) ∧ (∀ (x22 : Int32) (h23 : mxH), p212 76 h16 x22 h23 → ((x22 = 0 → (okT h23 ∧ (30 ≤ 46 ∧ 46 < 82 ∧ 46 % 2 = 0) ∧ (∀ (x29 : Int32) (h30 : mxH), p212 46 h23 x29 h30 → ((x29 = 0 → (okT h30 ∧ (30 ≤ 48 ∧ 48 < 82 ∧ 48 % 2 = 0) ∧ (∀ (x36 : Int32) (h37 : mxH), p212 48 h30 x36 h37 → ((x36 = 0 → (okT h37 ∧ (30 ≤ 80 ∧ 80 < 82 ∧ 80 % 2 = 0) ∧ (∀ (x43 : Int32) (h44 : mxH), p212 80 h37 x43 h44 → ((x43 = 0 → (∀ h48, h48 = W_213 h44 (mx_i h44 381 11) → Q (.inl none) h48)) ∧ (¬ x43 = 0 → (okT h44 ∧ mx_i h44 381 12 = -1 ∧ cB (5 : Int32) 768 ∧ (∀ (h56 : mxH), p222 (5 : Int32) (0 : Int32) (999 : Int32) h44 h56 → Q (.inl none) h56))))))) ∧ (¬ x36 = 0 → (okT h37 ∧ mx_i h37 381 12 = -1 ∧ cB (6 : Int32) 768 ∧ (∀ (h63 : mxH), p222 (6 : Int32) (1 : Int32) (99 : Int32) h37 h63 → Q (.inl none) h63))))))) ∧ (¬ x29 = 0 → (okT h30 ∧ (∀ (x67 : Int32) (h68 : mxH), p215 (0 : Int32) (11 : Int32) h30 x67 h68 → (((mx_i h68 381 12) = (-1) → (vp_in (21 + x67) 769 ∧ (∀ h73, h73 = mx_wi h68 382 (21 + x67).toNatClampNeg 1 → Q (.inl none) h73))) ∧ (¬ (mx_i h68 381 12) = (-1) → Q (.inl none) h68))))))))) ∧ (¬ x22 = 0 → (okT h23 ∧ (∀ (x77 : Int32) (h78 : mxH), p215 (0 : Int32) (11 : Int32) h23 x77 h78 → (okT h78 ∧ (∀ (x82 : Int32) (h83 : mxH), p215 (0 : Int32) (3 : Int32) h78 x82 h83 → (((mx_i h83 381 12) = (-1) → (vp_in (9 + x77) 769 ∧ (∀ h88, h88 = mx_wi h83 382 (9 + x77).toNatClampNeg x82 → Q (.inl none) h88))) ∧ (¬ (mx_i h83 381 12) = (-1) → Q (.inl none) h83))))))))))) ∧ (¬ x15 = 0 → (okT h16 ∧ mx_i h16 381 12 = -1 ∧ cB (mx_i h16 382 3) 6 ∧ cB (mx_i h16 382 4) 10 ∧ cB x2 400 ∧ (∀ (h97 : mxH), p219 x2 h16 h97 → Q (.inl none) h97))))))) ∧ (¬ x8 = 0 → (okT h9 ∧ mx_i h9 381 12 = -1 ∧ cB (mx_i h9 382 3) 6 ∧ cB x2 400 ∧ (∀ (h105 : mxH), p217 x2 h9 h105 → Q (.inl none) h105))))))))) : mx_wp (d + 7) 221 0 (mx_fr 221 [.ref 381]) [] h Q := by
  show mx_wp (d + 7) 221 0 [some (.ref 381), none, none, none] [] h Q
  refine wp_steps (i' := 1) (ls' := [some (.ref 381), none, none, none]) (st' := [.ref 381]) (h' := h) (P := True) 1 rfl rfl trivial ?_
  obtain ⟨o1, H⟩ := H
  refine wp_call (b := false) (y' := 214) (as := [.ref 381]) (rest := []) (P := ((mxT 381).1 = mxRc 214 ∧ mxG h)) rfl (by with_unfolding_all rfl) ⟨(congrArg Prod.fst sT_381), G⟩ (Nat.le_of_ble_eq_true rfl) (sp_214 G o1 ?_)
  intro x2 h3 p4
  show mx_wp (d + 7) 221 2 [some (.ref 381), none, none, none] [.int x2] h3 Q
  have H := H x2 h3 p4
  have G5 : mxG h3 := mxK_G p4.1 G
  refine wp_steps (i' := 5) (ls' := [some (.ref 381), some (.int x2), none, none]) (st' := [.ref 30, .ref 381]) (h' := h3) (P := True) 3 rfl rfl trivial ?_
  obtain ⟨o6, o7, H⟩ := H
  refine wp_call (b := false) (y' := 212) (as := [.ref 381, .ref 30]) (rest := []) (P := ((mxT 381).1 = mxRc 212 ∧ mxG h3)) rfl (by with_unfolding_all rfl) ⟨(congrArg Prod.fst sT_381), G5⟩ (Nat.le_of_ble_eq_true rfl) (sp_212 G5 o6 o7 ?_)
  intro x8 h9 p10
  show mx_wp (d + 7) 221 6 [some (.ref 381), some (.int x2), none, none] [.int x8] h9 Q
  have H := H x8 h9 p10
  have G11 : mxG h9 := mxK_G p10.1 G5
  refine wp_br (P := True) (c := x8 = 0) (t := 11) (st' := []) rfl rfl trivial (fun c12 => ?_) (fun c12 => ?_)
  · skip
    have H := H.1 c12
    refine wp_steps (i' := 13) (ls' := [some (.ref 381), some (.int x2), none, none]) (st' := [.ref 36, .ref 381]) (h' := h9) (P := True) 2 rfl rfl trivial ?_
    obtain ⟨o13, o14, H⟩ := H
    refine wp_call (b := false) (y' := 212) (as := [.ref 381, .ref 36]) (rest := []) (P := ((mxT 381).1 = mxRc 212 ∧ mxG h9)) rfl (by with_unfolding_all rfl) ⟨(congrArg Prod.fst sT_381), G11⟩ (Nat.le_of_ble_eq_true rfl) (sp_212 G11 o13 o14 ?_)
    intro x15 h16 p17
    show mx_wp (d + 7) 221 14 [some (.ref 381), some (.int x2), none, none] [.int x15] h16 Q
    have H := H x15 h16 p17
    have G18 : mxG h16 := mxK_G p17.1 G11
    refine wp_br (P := True) (c := x15 = 0) (t := 19) (st' := []) rfl rfl trivial (fun c19 => ?_) (fun c19 => ?_)
    · skip
      have H := H.1 c19
      refine wp_steps (i' := 21) (ls' := [some (.ref 381), some (.int x2), none, none]) (st' := [.ref 76, .ref 381]) (h' := h16) (P := True) 2 rfl rfl trivial ?_
      obtain ⟨o20, o21, H⟩ := H
      refine wp_call (b := false) (y' := 212) (as := [.ref 381, .ref 76]) (rest := []) (P := ((mxT 381).1 = mxRc 212 ∧ mxG h16)) rfl (by with_unfolding_all rfl) ⟨(congrArg Prod.fst sT_381), G18⟩ (Nat.le_of_ble_eq_true rfl) (sp_212 G18 o20 o21 ?_)
      intro x22 h23 p24
      show mx_wp (d + 7) 221 22 [some (.ref 381), some (.int x2), none, none] [.int x22] h23 Q
      have H := H x22 h23 p24
      have G25 : mxG h23 := mxK_G p24.1 G18
      refine wp_br (P := True) (c := x22 = 0) (t := 45) (st' := []) rfl rfl trivial (fun c26 => ?_) (fun c26 => ?_)
      · skip
        have H := H.1 c26
        refine wp_steps (i' := 47) (ls' := [some (.ref 381), some (.int x2), none, none]) (st' := [.ref 46, .ref 381]) (h' := h23) (P := True) 2 rfl rfl trivial ?_
        obtain ⟨o27, o28, H⟩ := H
        refine wp_call (b := false) (y' := 212) (as := [.ref 381, .ref 46]) (rest := []) (P := ((mxT 381).1 = mxRc 212 ∧ mxG h23)) rfl (by with_unfolding_all rfl) ⟨(congrArg Prod.fst sT_381), G25⟩ (Nat.le_of_ble_eq_true rfl) (sp_212 G25 o27 o28 ?_)
        intro x29 h30 p31
        show mx_wp (d + 7) 221 48 [some (.ref 381), some (.int x2), none, none] [.int x29] h30 Q
        have H := H x29 h30 p31
        have G32 : mxG h30 := mxK_G p31.1 G25
        refine wp_br (P := True) (c := x29 = 0) (t := 66) (st' := []) rfl rfl trivial (fun c33 => ?_) (fun c33 => ?_)
        · skip
          have H := H.1 c33
          refine wp_steps (i' := 68) (ls' := [some (.ref 381), some (.int x2), none, none]) (st' := [.ref 48, .ref 381]) (h' := h30) (P := True) 2 rfl rfl trivial ?_
          obtain ⟨o34, o35, H⟩ := H
          refine wp_call (b := false) (y' := 212) (as := [.ref 381, .ref 48]) (rest := []) (P := ((mxT 381).1 = mxRc 212 ∧ mxG h30)) rfl (by with_unfolding_all rfl) ⟨(congrArg Prod.fst sT_381), G32⟩ (Nat.le_of_ble_eq_true rfl) (sp_212 G32 o34 o35 ?_)
          intro x36 h37 p38
          show mx_wp (d + 7) 221 69 [some (.ref 381), some (.int x2), none, none] [.int x36] h37 Q
          have H := H x36 h37 p38
          have G39 : mxG h37 := mxK_G p38.1 G32
          refine wp_br (P := True) (c := x36 = 0) (t := 76) (st' := []) rfl rfl trivial (fun c40 => ?_) (fun c40 => ?_)
          · skip
            have H := H.1 c40
            refine wp_steps (i' := 78) (ls' := [some (.ref 381), some (.int x2), none, none]) (st' := [.ref 80, .ref 381]) (h' := h37) (P := True) 2 rfl rfl trivial ?_
            obtain ⟨o41, o42, H⟩ := H
            refine wp_call (b := false) (y' := 212) (as := [.ref 381, .ref 80]) (rest := []) (P := ((mxT 381).1 = mxRc 212 ∧ mxG h37)) rfl (by with_unfolding_all rfl) ⟨(congrArg Prod.fst sT_381), G39⟩ (Nat.le_of_ble_eq_true rfl) (sp_212 G39 o41 o42 ?_)
            intro x43 h44 p45
            show mx_wp (d + 7) 221 79 [some (.ref 381), some (.int x2), none, none] [.int x43] h44 Q
            have H := H x43 h44 p45
            have G46 : mxG h44 := mxK_G p45.1 G39
            refine wp_br (P := True) (c := x43 = 0) (t := 86) (st' := []) rfl rfl trivial (fun c47 => ?_) (fun c47 => ?_)
            · skip
              have H := H.1 c47
              refine wp_steps (i' := 89) (ls' := [some (.ref 381), some (.int x2), none, none]) (st' := [.int (mx_i h44 381 11), .ref 381]) (h' := h44) (P := ((mxT 381).1 = 11 ∧ mxG h44) ∧ True) 3 rfl rfl ⟨⟨(congrArg Prod.fst sT_381), G46⟩, trivial⟩ ?_
              refine wp_call (b := false) (y' := 213) (as := [.ref 381, .int (mx_i h44 381 11)]) (rest := []) (P := ((mxT 381).1 = mxRc 213 ∧ mxG h44)) rfl (by with_unfolding_all rfl) ⟨(congrArg Prod.fst sT_381), G46⟩ (Nat.le_of_ble_eq_true rfl) (sp_213 G46 ?_)
              show mx_wp (d + 7) 221 90 [some (.ref 381), some (.int x2), none, none] [] (W_213 h44 (mx_i h44 381 11)) Q
              obtain ⟨h48, e49⟩ : ∃ z9, z9 = W_213 h44 (mx_i h44 381 11) := ⟨_, rfl⟩
              rw [← e49]
              have H := H h48 e49
              have K51 : mxK h44 h48 := e49 ▸ KW_213
              have G50 : mxG h48 := mxK_G K51 G46
              exact wp_end (o := .inl none) (h' := h48) (P := True) rfl rfl trivial H
            · skip
              have H := H.2 c47
              refine wp_steps (i' := 84) (ls' := [some (.ref 381), some (.int x2), none, none]) (st' := [.int 999, .int 0, .int 5, .ref 381]) (h' := h44) (P := True) 4 rfl rfl trivial ?_
              obtain ⟨o52, o53, o54, H⟩ := H
              refine wp_call (b := false) (y' := 222) (as := [.ref 381, .int 5, .int 0, .int 999]) (rest := []) (P := ((mxT 381).1 = mxRc 222 ∧ mxG h44)) rfl (by with_unfolding_all rfl) ⟨(congrArg Prod.fst sT_381), G46⟩ (Nat.le_of_ble_eq_true rfl) (sp_222 G46 o52 o53 o54 ?_)
              intro h56 p57
              show mx_wp (d + 7) 221 85 [some (.ref 381), some (.int x2), none, none] [] h56 Q
              have H := H h56 p57
              have G58 : mxG h56 := mxK_G p57.1.1 G46
              refine wp_J (j := 90) (st' := []) rfl rfl ?_
              exact wp_end (o := .inl none) (h' := h56) (P := True) rfl rfl trivial H
          · skip
            have H := H.2 c40
            refine wp_steps (i' := 74) (ls' := [some (.ref 381), some (.int x2), none, none]) (st' := [.int 99, .int 1, .int 6, .ref 381]) (h' := h37) (P := True) 4 rfl rfl trivial ?_
            obtain ⟨o59, o60, o61, H⟩ := H
            refine wp_call (b := false) (y' := 222) (as := [.ref 381, .int 6, .int 1, .int 99]) (rest := []) (P := ((mxT 381).1 = mxRc 222 ∧ mxG h37)) rfl (by with_unfolding_all rfl) ⟨(congrArg Prod.fst sT_381), G39⟩ (Nat.le_of_ble_eq_true rfl) (sp_222 G39 o59 o60 o61 ?_)
            intro h63 p64
            show mx_wp (d + 7) 221 75 [some (.ref 381), some (.int x2), none, none] [] h63 Q
            have H := H h63 p64
            have G65 : mxG h63 := mxK_G p64.1.1 G39
            refine wp_J (j := 90) (st' := []) rfl rfl ?_
            exact wp_end (o := .inl none) (h' := h63) (P := True) rfl rfl trivial H
        · skip
          have H := H.2 c33
          refine wp_steps (i' := 52) (ls' := [some (.ref 381), some (.int x2), none, none]) (st' := [.int 11, .int 0, .ref 381]) (h' := h30) (P := True) 3 rfl rfl trivial ?_
          obtain ⟨o66, H⟩ := H
          refine wp_call (b := false) (y' := 215) (as := [.ref 381, .int 0, .int 11]) (rest := []) (P := ((mxT 381).1 = mxRc 215 ∧ mxG h30)) rfl (by with_unfolding_all rfl) ⟨(congrArg Prod.fst sT_381), G32⟩ (Nat.le_of_ble_eq_true rfl) (sp_215 G32 o66 ?_)
          intro x67 h68 p69
          show mx_wp (d + 7) 221 53 [some (.ref 381), some (.int x2), none, none] [.int x67] h68 Q
          have H := H x67 h68 p69
          have G70 : mxG h68 := mxK_G p69.1 G32
          refine wp_steps (i' := 57) (ls' := [some (.ref 381), some (.int x2), some (.int x67), none]) (st' := [.int (-1), .int (mx_i h68 381 12)]) (h' := h68) (P := ((mxT 381).1 = 11 ∧ mxG h68) ∧ True) 4 rfl rfl ⟨⟨(congrArg Prod.fst sT_381), G70⟩, trivial⟩ ?_
          refine wp_br (P := True) (c := ¬ (mx_i h68 381 12) = (-1)) (t := 65) (st' := []) rfl rfl trivial (fun c71 => ?_) (fun c71 => ?_)
          · skip
            have H := H.2 c71
            refine wp_J (j := 90) (st' := []) rfl rfl ?_
            exact wp_end (o := .inl none) (h' := h68) (P := True) rfl rfl trivial H
          · have c71 := Decidable.of_not_not c71
            have H := H.1 c71
            obtain ⟨o72, H⟩ := H
            refine wp_steps (i' := 65) (ls' := [some (.ref 381), some (.int x2), some (.int x67), none]) (st' := []) (h' := mx_wi h68 382 (21 + x67).toNatClampNeg 1) (P := ((mxT 381).1 = 11 ∧ mxG h68) ∧ (((mxT 382).1 = 50 ∧ mxG h68) ∧ vp_in (21 + x67) (mxT 382).2) ∧ True) 7 rfl rfl ⟨⟨(congrArg Prod.fst sT_381), G70⟩, (cA sT_382 G70 o72), trivial⟩ ?_
            obtain ⟨h73, e74⟩ : ∃ z9, z9 = mx_wi h68 382 (21 + x67).toNatClampNeg 1 := ⟨_, rfl⟩
            rw [← e74]
            have H := H h73 e74
            have G75 : mxG h73 := e74 ▸ mxG_wi G70
            refine wp_J (j := 90) (st' := []) rfl rfl ?_
            exact wp_end (o := .inl none) (h' := h73) (P := True) rfl rfl trivial H
      · skip
        have H := H.2 c26
        refine wp_steps (i' := 26) (ls' := [some (.ref 381), some (.int x2), none, none]) (st' := [.int 11, .int 0, .ref 381]) (h' := h23) (P := True) 3 rfl rfl trivial ?_
        obtain ⟨o76, H⟩ := H
        refine wp_call (b := false) (y' := 215) (as := [.ref 381, .int 0, .int 11]) (rest := []) (P := ((mxT 381).1 = mxRc 215 ∧ mxG h23)) rfl (by with_unfolding_all rfl) ⟨(congrArg Prod.fst sT_381), G25⟩ (Nat.le_of_ble_eq_true rfl) (sp_215 G25 o76 ?_)
        intro x77 h78 p79
        show mx_wp (d + 7) 221 27 [some (.ref 381), some (.int x2), none, none] [.int x77] h78 Q
        have H := H x77 h78 p79
        have G80 : mxG h78 := mxK_G p79.1 G25
        refine wp_steps (i' := 31) (ls' := [some (.ref 381), some (.int x2), some (.int x77), none]) (st' := [.int 3, .int 0, .ref 381]) (h' := h78) (P := True) 4 rfl rfl trivial ?_
        obtain ⟨o81, H⟩ := H
        refine wp_call (b := false) (y' := 215) (as := [.ref 381, .int 0, .int 3]) (rest := []) (P := ((mxT 381).1 = mxRc 215 ∧ mxG h78)) rfl (by with_unfolding_all rfl) ⟨(congrArg Prod.fst sT_381), G80⟩ (Nat.le_of_ble_eq_true rfl) (sp_215 G80 o81 ?_)
        intro x82 h83 p84
        show mx_wp (d + 7) 221 32 [some (.ref 381), some (.int x2), some (.int x77), none] [.int x82] h83 Q
        have H := H x82 h83 p84
        have G85 : mxG h83 := mxK_G p84.1 G80
        refine wp_steps (i' := 36) (ls' := [some (.ref 381), some (.int x2), some (.int x77), some (.int x82)]) (st' := [.int (-1), .int (mx_i h83 381 12)]) (h' := h83) (P := ((mxT 381).1 = 11 ∧ mxG h83) ∧ True) 4 rfl rfl ⟨⟨(congrArg Prod.fst sT_381), G85⟩, trivial⟩ ?_
        refine wp_br (P := True) (c := ¬ (mx_i h83 381 12) = (-1)) (t := 44) (st' := []) rfl rfl trivial (fun c86 => ?_) (fun c86 => ?_)
        · skip
          have H := H.2 c86
          refine wp_J (j := 90) (st' := []) rfl rfl ?_
          exact wp_end (o := .inl none) (h' := h83) (P := True) rfl rfl trivial H
        · have c86 := Decidable.of_not_not c86
          have H := H.1 c86
          obtain ⟨o87, H⟩ := H
          refine wp_steps (i' := 44) (ls' := [some (.ref 381), some (.int x2), some (.int x77), some (.int x82)]) (st' := []) (h' := mx_wi h83 382 (9 + x77).toNatClampNeg x82) (P := ((mxT 381).1 = 11 ∧ mxG h83) ∧ (((mxT 382).1 = 50 ∧ mxG h83) ∧ vp_in (9 + x77) (mxT 382).2) ∧ True) 7 rfl rfl ⟨⟨(congrArg Prod.fst sT_381), G85⟩, (cA sT_382 G85 o87), trivial⟩ ?_
          obtain ⟨h88, e89⟩ : ∃ z9, z9 = mx_wi h83 382 (9 + x77).toNatClampNeg x82 := ⟨_, rfl⟩
          rw [← e89]
          have H := H h88 e89
          have G90 : mxG h88 := e89 ▸ mxG_wi G85
          refine wp_J (j := 90) (st' := []) rfl rfl ?_
          exact wp_end (o := .inl none) (h' := h88) (P := True) rfl rfl trivial H
    · skip
      have H := H.2 c19
      refine wp_steps (i' := 17) (ls' := [some (.ref 381), some (.int x2), none, none]) (st' := [.int x2, .ref 381]) (h' := h16) (P := True) 2 rfl rfl trivial ?_
      obtain ⟨o91, o92, o93, o94, o95, H⟩ := H
      refine wp_call (b := false) (y' := 219) (as := [.ref 381, .int x2]) (rest := []) (P := ((mxT 381).1 = mxRc 219 ∧ mxG h16)) rfl (by with_unfolding_all rfl) ⟨(congrArg Prod.fst sT_381), G18⟩ (Nat.le_of_ble_eq_true rfl) (sp_219 G18 o91 o92 o93 o94 o95 ?_)
      intro h97 p98
      show mx_wp (d + 7) 221 18 [some (.ref 381), some (.int x2), none, none] [] h97 Q
      have H := H h97 p98
      have G99 : mxG h97 := mxK_G p98.1.1 G18
      refine wp_J (j := 90) (st' := []) rfl rfl ?_
      exact wp_end (o := .inl none) (h' := h97) (P := True) rfl rfl trivial H
  · skip
    have H := H.2 c12
    refine wp_steps (i' := 9) (ls' := [some (.ref 381), some (.int x2), none, none]) (st' := [.int x2, .ref 381]) (h' := h9) (P := True) 2 rfl rfl trivial ?_
    obtain ⟨o100, o101, o102, o103, H⟩ := H
    refine wp_call (b := false) (y' := 217) (as := [.ref 381, .int x2]) (rest := []) (P := ((mxT 381).1 = mxRc 217 ∧ mxG h9)) rfl (by with_unfolding_all rfl) ⟨(congrArg Prod.fst sT_381), G11⟩ (Nat.le_of_ble_eq_true rfl) (sp_217 G11 o100 o101 o102 o103 ?_)
    intro h105 p106
    show mx_wp (d + 7) 221 10 [some (.ref 381), some (.int x2), none, none] [] h105 Q
    have H := H h105 p106
    have G107 : mxG h105 := mxK_G p106.1.1 G11
    refine wp_J (j := 90) (st' := []) rfl rfl ?_
    exact wp_end (o := .inl none) (h' := h105) (P := True) rfl rfl trivial H
