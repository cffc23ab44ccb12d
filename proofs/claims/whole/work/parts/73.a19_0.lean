/-! 227: StoneBacksModel.valley()I -/
set_option maxRecDepth 8000 in
theorem tr_227_0 {d : Nat} {h : mxH} {Q : mxO → mxH → Prop}  (G : mxG h)  (H : (∀ h1, h1 = W_225 h → (∀ h5, h5 = W_223 h1 → (¬ (0 : Int32) = 0 ∧ okT h5 ∧ mx_i h5 381 11 = 0 ∧ mx_i h5 381 12 = -1 ∧ fc01 h5 ∧ mx_i h5 381 13 = 0 ∧ (∀ (x15 : Int32) (h16 : mxH), p224 h5 x15 h16 → (∀ (v19 : Int32), v19 = ((if (mx_i h16 381 12) = (-1) then (if (mx_i h16 382 0) = 12 then 2 else 0) else 1) : Int32) → (∀ h20, h20 = mx_wi h16 381 0 v19 → ((0 < (mx_i h20 381 0) → (∀ h30, h30 = W_226 h20 → Q (.inl (some (.int 0))) h30)) ∧ (¬ 0 < (mx_i h20 381 0) → (∀ h24, h24 = mx_wi h20 382 0 ((mx_i h20 382 0) + 1) → (∀ h27, h27 = mx_wi h24 381 6 0 → Q (.inl (some (.int (mx_i h27 382 0)))) h27))))))))))) : mx_wp (d + 33) 227 0 (mx_fr 227 [.ref 381]) [] h Q := by
  show mx_wp (d + 33) 227 0 [some (.ref 381), none] [] h Q
  refine wp_steps (i' := 1) (ls' := [some (.ref 381), none]) (st' := [.ref 381]) (h' := h) (P := True) 1 rfl rfl trivial ?_
  refine wp_call (b := false) (y' := 225) (as := [.ref 381]) (rest := []) (P := ((mxT 381).1 = mxRc 225 ∧ mxG h)) rfl (by with_unfolding_all rfl) ⟨(congrArg Prod.fst sT_381), G⟩ (Nat.le_of_ble_eq_true rfl) (sp_225 G ?_)
  show mx_wp (d + 33) 227 2 [some (.ref 381), none] [] (W_225 h) Q
  obtain ⟨h1, e2⟩ : ∃ z9, z9 = W_225 h := ⟨_, rfl⟩
  rw [← e2]
  have H := H h1 e2
  have K4 : mxK h h1 := e2 ▸ KW_225
  have G3 : mxG h1 := mxK_G K4 G
  refine wp_steps (i' := 3) (ls' := [some (.ref 381), none]) (st' := [.ref 381]) (h' := h1) (P := True) 1 rfl rfl trivial ?_
  refine wp_call (b := false) (y' := 223) (as := [.ref 381]) (rest := []) (P := ((mxT 381).1 = mxRc 223 ∧ mxG h1)) rfl (by with_unfolding_all rfl) ⟨(congrArg Prod.fst sT_381), G3⟩ (Nat.le_of_ble_eq_true rfl) (sp_223 G3 ?_)
  show mx_wp (d + 33) 227 4 [some (.ref 381), none] [] (W_223 h1) Q
  obtain ⟨h5, e6⟩ : ∃ z9, z9 = W_223 h1 := ⟨_, rfl⟩
  rw [← e6]
  have H := H h5 e6
  have K8 : mxK h1 h5 := e6 ▸ KW_223
  have G7 : mxG h5 := mxK_G K8 G3
  refine wp_steps (i' := 6) (ls' := [some (.ref 381), none]) (st' := [.int 0, .ref 381]) (h' := h5) (P := True) 2 rfl rfl trivial ?_
  obtain ⟨o9, o10, o11, o12, o13, o14, H⟩ := H
  refine wp_call (b := false) (y' := 224) (as := [.ref 381, .int 0]) (rest := []) (P := ((mxT 381).1 = mxRc 224 ∧ mxG h5)) rfl (by with_unfolding_all rfl) ⟨(congrArg Prod.fst sT_381), G7⟩ (Nat.le_of_ble_eq_true rfl) (sp_224 G7 o9 o10 o11 o12 o13 o14 ?_)
  intro x15 h16 p17
  show mx_wp (d + 33) 227 7 [some (.ref 381), none] [.int x15] h16 Q
  have H := H x15 h16 p17
  have G18 : mxG h16 := mxK_G p17.1.1 G7
  refine wp_steps (i' := 12) (ls' := [some (.ref 381), some (.int x15)]) (st' := [.int (-1), .int (mx_i h16 381 12), .ref 381]) (h' := h16) (P := ((mxT 381).1 = 11 ∧ mxG h16) ∧ True) 5 rfl rfl ⟨⟨(congrArg Prod.fst sT_381), G18⟩, trivial⟩ ?_
  have J : ∀ (v19 : Int32) (ev19 : v19 = ((if (mx_i h16 381 12) = (-1) then (if (mx_i h16 382 0) = 12 then 2 else 0) else 1) : Int32)), mx_wp (d + 33) 227 24 [some (.ref 381), some (.int x15)] [.int v19, .ref 381] h16 Q := by
    intro v19 ev19
    have H := H v19 ev19
    refine wp_steps (i' := 25) (ls' := [some (.ref 381), some (.int x15)]) (st' := []) (h' := mx_wi h16 381 0 v19) (P := ((mxT 381).1 = 11 ∧ mxG h16) ∧ True) 1 rfl rfl ⟨⟨(congrArg Prod.fst sT_381), G18⟩, trivial⟩ ?_
    obtain ⟨h20, e21⟩ : ∃ z9, z9 = mx_wi h16 381 0 v19 := ⟨_, rfl⟩
    rw [← e21]
    have H := H h20 e21
    have G22 : mxG h20 := e21 ▸ mxG_wi G18
    refine wp_steps (i' := 27) (ls' := [some (.ref 381), some (.int x15)]) (st' := [.int (mx_i h20 381 0)]) (h' := h20) (P := ((mxT 381).1 = 11 ∧ mxG h20) ∧ True) 2 rfl rfl ⟨⟨(congrArg Prod.fst sT_381), G22⟩, trivial⟩ ?_
    refine wp_br (P := True) (c := (mx_i h20 381 0) ≤ 0) (t := 32) (st' := []) rfl rfl trivial (fun c23 => ?_) (fun c23 => ?_)
    · have c23 := Int32.not_lt.mpr c23
      have H := H.2 c23
      refine wp_steps (i' := 40) (ls' := [some (.ref 381), some (.int x15)]) (st' := []) (h' := mx_wi h20 382 0 ((mx_i h20 382 0) + 1)) (P := ((mxT 381).1 = 11 ∧ mxG h20) ∧ (((mxT 382).1 = 50 ∧ mxG h20) ∧ vp_in 0 (mxT 382).2) ∧ (((mxT 382).1 = 50 ∧ mxG h20) ∧ vp_in 0 (mxT 382).2) ∧ True) 8 rfl rfl ⟨⟨(congrArg Prod.fst sT_381), G22⟩, (cA sT_382 G22 (vpl rfl)), (cA sT_382 G22 (vpl rfl)), trivial⟩ ?_
      obtain ⟨h24, e25⟩ : ∃ z9, z9 = mx_wi h20 382 0 ((mx_i h20 382 0) + 1) := ⟨_, rfl⟩
      rw [← e25]
      have H := H h24 e25
      have G26 : mxG h24 := e25 ▸ mxG_wi G22
      refine wp_steps (i' := 43) (ls' := [some (.ref 381), some (.int x15)]) (st' := []) (h' := mx_wi h24 381 6 0) (P := ((mxT 381).1 = 11 ∧ mxG h24) ∧ True) 3 rfl rfl ⟨⟨(congrArg Prod.fst sT_381), G26⟩, trivial⟩ ?_
      obtain ⟨h27, e28⟩ : ∃ z9, z9 = mx_wi h24 381 6 0 := ⟨_, rfl⟩
      rw [← e28]
      have H := H h27 e28
      have G29 : mxG h27 := e28 ▸ mxG_wi G26
      refine wp_steps (i' := 47) (ls' := [some (.ref 381), some (.int x15)]) (st' := [.int (mx_i h27 382 0)]) (h' := h27) (P := ((mxT 381).1 = 11 ∧ mxG h27) ∧ (((mxT 382).1 = 50 ∧ mxG h27) ∧ vp_in 0 (mxT 382).2) ∧ True) 4 rfl rfl ⟨⟨(congrArg Prod.fst sT_381), G29⟩, (cA sT_382 G29 (vpl rfl)), trivial⟩ ?_
      exact wp_end (o := .inl (some (.int (mx_i h27 382 0)))) (h' := h27) (P := True) rfl rfl trivial H
    · have c23 := Int32.not_le.mp c23
      have H := H.1 c23
      refine wp_steps (i' := 29) (ls' := [some (.ref 381), some (.int x15)]) (st' := [.ref 381]) (h' := h20) (P := True) 1 rfl rfl trivial ?_
      refine wp_call (b := false) (y' := 226) (as := [.ref 381]) (rest := []) (P := ((mxT 381).1 = mxRc 226 ∧ mxG h20)) rfl (by with_unfolding_all rfl) ⟨(congrArg Prod.fst sT_381), G22⟩ (Nat.le_of_ble_eq_true rfl) (sp_226 G22 ?_)
      show mx_wp (d + 33) 227 30 [some (.ref 381), some (.int x15)] [] (W_226 h20) Q
      obtain ⟨h30, e31⟩ : ∃ z9, z9 = W_226 h20 := ⟨_, rfl⟩
      rw [← e31]
      have H := H h30 e31
      have K33 : mxK h20 h30 := e31 ▸ KW_226
      have G32 : mxG h30 := mxK_G K33 G22
      refine wp_steps (i' := 31) (ls' := [some (.ref 381), some (.int x15)]) (st' := [.int 0]) (h' := h30) (P := True) 1 rfl rfl trivial ?_
      exact wp_end (o := .inl (some (.int 0))) (h' := h30) (P := True) rfl rfl trivial H
  refine wp_br (P := True) (c := (mx_i h16 381 12) = (-1)) (t := 15) (st' := [.ref 381]) rfl rfl trivial (fun c34 => ?_) (fun c34 => ?_)
  · skip
    refine wp_steps (i' := 20) (ls' := [some (.ref 381), some (.int x15)]) (st' := [.int 12, .int (mx_i h16 382 0), .ref 381]) (h' := h16) (P := ((mxT 381).1 = 11 ∧ mxG h16) ∧ (((mxT 382).1 = 50 ∧ mxG h16) ∧ vp_in 0 (mxT 382).2) ∧ True) 5 rfl rfl ⟨⟨(congrArg Prod.fst sT_381), G18⟩, (cA sT_382 G18 (vpl rfl)), trivial⟩ ?_
    refine wp_br (P := True) (c := ¬ (mx_i h16 382 0) = 12) (t := 23) (st' := [.ref 381]) rfl rfl trivial (fun c35 => ?_) (fun c35 => ?_)
    · skip
      refine wp_steps (i' := 24) (ls' := [some (.ref 381), some (.int x15)]) (st' := [.int 0, .ref 381]) (h' := h16) (P := True) 1 rfl rfl trivial ?_
      exact J _ (by rw [if_pos c34, if_neg c35])
    · have c35 := Decidable.of_not_not c35
      refine wp_steps (i' := 22) (ls' := [some (.ref 381), some (.int x15)]) (st' := [.int 2, .ref 381]) (h' := h16) (P := True) 1 rfl rfl trivial ?_
      refine wp_J (j := 24) (st' := [.int 2, .ref 381]) rfl rfl ?_
      exact J _ (by rw [if_pos c34, if_pos c35])
  · skip
    refine wp_steps (i' := 14) (ls' := [some (.ref 381), some (.int x15)]) (st' := [.int 1, .ref 381]) (h' := h16) (P := True) 1 rfl rfl trivial ?_
    refine wp_J (j := 24) (st' := [.int 1, .ref 381]) rfl rfl ?_
    exact J _ (by rw [if_neg c34])
/-! 235: StoneBacksModel.law()I -/
def H_235_33 (d : Nat) (h : mxH) (i1 : Int32) (i2 : Int32) (Q : mxO → mxH → Prop) : Prop := mx_wp d 235 33 [some (.ref 381), some (.int i1), some (.int i2)] [] h Q
set_option maxRecDepth 8000 in
theorem tr_235_0 {d : Nat} {h : mxH} {Q : mxO → mxH → Prop}  (G : mxG h)  (H : (∀ h1, h1 = W_223 h → (¬ (1 : Int32) = 0 ∧ okT h1 ∧ mx_i h1 381 11 = 0 ∧ mx_i h1 381 12 = -1 ∧ fc01 h1 ∧ mx_i h1 381 13 = 0 ∧ (∀ (x11 : Int32) (h12 : mxH), p224 h1 x11 h12 → (∀ (v15 : Int32), v15 = ((if (mx_i h12 381 12) = (-1) then 0 else 1) : Int32) → (∀ h16, h16 = mx_wi h12 381 0 v15 → ((0 < (mx_i h16 381 0) → Q (.inl (some (.int 0))) h16) ∧ (¬ 0 < (mx_i h16 381 0) → (∀ h20, h20 = mx_wi h16 382 1 x11 → (∀ h23, h23 = mx_wi h20 382 2 (mx_i h20 381 10) → H_235_33 (d + 33) h23 x11 0 Q)))))))))) : mx_wp (d + 33) 235 0 (mx_fr 235 [.ref 381]) [] h Q := by
  show mx_wp (d + 33) 235 0 [some (.ref 381), none, none] [] h Q
  refine wp_steps (i' := 1) (ls' := [some (.ref 381), none, none]) (st' := [.ref 381]) (h' := h) (P := True) 1 rfl rfl trivial ?_
  refine wp_call (b := false) (y' := 223) (as := [.ref 381]) (rest := []) (P := ((mxT 381).1 = mxRc 223 ∧ mxG h)) rfl (by with_unfolding_all rfl) ⟨(congrArg Prod.fst sT_381), G⟩ (Nat.le_of_ble_eq_true rfl) (sp_223 G ?_)
  show mx_wp (d + 33) 235 2 [some (.ref 381), none, none] [] (W_223 h) Q
  obtain ⟨h1, e2⟩ : ∃ z9, z9 = W_223 h := ⟨_, rfl⟩
  rw [← e2]
  have H := H h1 e2
  have K4 : mxK h h1 := e2 ▸ KW_223
  have G3 : mxG h1 := mxK_G K4 G
  refine wp_steps (i' := 4) (ls' := [some (.ref 381), none, none]) (st' := [.int 1, .ref 381]) (h' := h1) (P := True) 2 rfl rfl trivial ?_
  obtain ⟨o5, o6, o7, o8, o9, o10, H⟩ := H
  refine wp_call (b := false) (y' := 224) (as := [.ref 381, .int 1]) (rest := []) (P := ((mxT 381).1 = mxRc 224 ∧ mxG h1)) rfl (by with_unfolding_all rfl) ⟨(congrArg Prod.fst sT_381), G3⟩ (Nat.le_of_ble_eq_true rfl) (sp_224 G3 o5 o6 o7 o8 o9 o10 ?_)
  intro x11 h12 p13
  show mx_wp (d + 33) 235 5 [some (.ref 381), none, none] [.int x11] h12 Q
  have H := H x11 h12 p13
  have G14 : mxG h12 := mxK_G p13.1.1 G3
  refine wp_steps (i' := 10) (ls' := [some (.ref 381), some (.int x11), none]) (st' := [.int (-1), .int (mx_i h12 381 12), .ref 381]) (h' := h12) (P := ((mxT 381).1 = 11 ∧ mxG h12) ∧ True) 5 rfl rfl ⟨⟨(congrArg Prod.fst sT_381), G14⟩, trivial⟩ ?_
  have J : ∀ (v15 : Int32) (ev15 : v15 = ((if (mx_i h12 381 12) = (-1) then 0 else 1) : Int32)), mx_wp (d + 33) 235 14 [some (.ref 381), some (.int x11), none] [.int v15, .ref 381] h12 Q := by
    intro v15 ev15
    have H := H v15 ev15
    refine wp_steps (i' := 15) (ls' := [some (.ref 381), some (.int x11), none]) (st' := []) (h' := mx_wi h12 381 0 v15) (P := ((mxT 381).1 = 11 ∧ mxG h12) ∧ True) 1 rfl rfl ⟨⟨(congrArg Prod.fst sT_381), G14⟩, trivial⟩ ?_
    obtain ⟨h16, e17⟩ : ∃ z9, z9 = mx_wi h12 381 0 v15 := ⟨_, rfl⟩
    rw [← e17]
    have H := H h16 e17
    have G18 : mxG h16 := e17 ▸ mxG_wi G14
    refine wp_steps (i' := 17) (ls' := [some (.ref 381), some (.int x11), none]) (st' := [.int (mx_i h16 381 0)]) (h' := h16) (P := ((mxT 381).1 = 11 ∧ mxG h16) ∧ True) 2 rfl rfl ⟨⟨(congrArg Prod.fst sT_381), G18⟩, trivial⟩ ?_
    refine wp_br (P := True) (c := (mx_i h16 381 0) ≤ 0) (t := 20) (st' := []) rfl rfl trivial (fun c19 => ?_) (fun c19 => ?_)
    · have c19 := Int32.not_lt.mpr c19
      have H := H.2 c19
      refine wp_steps (i' := 25) (ls' := [some (.ref 381), some (.int x11), none]) (st' := []) (h' := mx_wi h16 382 1 x11) (P := ((mxT 381).1 = 11 ∧ mxG h16) ∧ (((mxT 382).1 = 50 ∧ mxG h16) ∧ vp_in 1 (mxT 382).2) ∧ True) 5 rfl rfl ⟨⟨(congrArg Prod.fst sT_381), G18⟩, (cA sT_382 G18 (vpl rfl)), trivial⟩ ?_
      obtain ⟨h20, e21⟩ : ∃ z9, z9 = mx_wi h16 382 1 x11 := ⟨_, rfl⟩
      rw [← e21]
      have H := H h20 e21
      have G22 : mxG h20 := e21 ▸ mxG_wi G18
      refine wp_steps (i' := 31) (ls' := [some (.ref 381), some (.int x11), none]) (st' := []) (h' := mx_wi h20 382 2 (mx_i h20 381 10)) (P := ((mxT 381).1 = 11 ∧ mxG h20) ∧ ((mxT 381).1 = 11 ∧ mxG h20) ∧ (((mxT 382).1 = 50 ∧ mxG h20) ∧ vp_in 2 (mxT 382).2) ∧ True) 6 rfl rfl ⟨⟨(congrArg Prod.fst sT_381), G22⟩, ⟨(congrArg Prod.fst sT_381), G22⟩, (cA sT_382 G22 (vpl rfl)), trivial⟩ ?_
      obtain ⟨h23, e24⟩ : ∃ z9, z9 = mx_wi h20 382 2 (mx_i h20 381 10) := ⟨_, rfl⟩
      rw [← e24]
      have H := H h23 e24
      have G25 : mxG h23 := e24 ▸ mxG_wi G22
      refine wp_steps (i' := 33) (ls' := [some (.ref 381), some (.int x11), some (.int 0)]) (st' := []) (h' := h23) (P := True) 2 rfl rfl trivial ?_
      exact H 
    · have c19 := Int32.not_le.mp c19
      have H := H.1 c19
      refine wp_steps (i' := 19) (ls' := [some (.ref 381), some (.int x11), none]) (st' := [.int 0]) (h' := h16) (P := True) 1 rfl rfl trivial ?_
      exact wp_end (o := .inl (some (.int 0))) (h' := h16) (P := True) rfl rfl trivial H
  refine wp_br (P := True) (c := (mx_i h12 381 12) = (-1)) (t := 13) (st' := [.ref 381]) rfl rfl trivial (fun c26 => ?_) (fun c26 => ?_)
  · skip
    refine wp_steps (i' := 14) (ls' := [some (.ref 381), some (.int x11), none]) (st' := [.int 0, .ref 381]) (h' := h12) (P := True) 1 rfl rfl trivial ?_
    exact J _ (by rw [if_pos c26])
  · skip
    refine wp_steps (i' := 12) (ls' := [some (.ref 381), some (.int x11), none]) (st' := [.int 1, .ref 381]) (h' := h12) (P := True) 1 rfl rfl trivial ?_
    refine wp_J (j := 14) (st' := [.int 1, .ref 381]) rfl rfl ?_
    exact J _ (by rw [if_neg c26])
set_option maxRecDepth 8000 in
theorem tr_235_33 {d : Nat} {h : mxH} {Q : mxO → mxH → Prop}  {i1 : Int32} {i2 : Int32} (G : mxG h)  (H : ((i2 < (mx_i h 381 10) → (vp_in i2 400 ∧ vp_in (369 + i2) 769 ∧ (∀ h7, h7 = mx_wi h 382 (369 + i2).toNatClampNeg (mx_i h 386 i2.toNatClampNeg) → H_235_33 (d + 33) h7 i1 (i2 + 1) Q))) ∧ (¬ i2 < (mx_i h 381 10) → (∀ h2, h2 = mx_wi h 381 6 0 → Q (.inl (some (.int i1))) h2)))) : H_235_33 (d + 33) h i1 i2 Q := by
  show mx_wp (d + 33) 235 33 [some (.ref 381), some (.int i1), some (.int i2)] [] h Q
  refine wp_steps (i' := 36) (ls' := [some (.ref 381), some (.int i1), some (.int i2)]) (st' := [.int (mx_i h 381 10), .int i2]) (h' := h) (P := ((mxT 381).1 = 11 ∧ mxG h) ∧ True) 3 rfl rfl ⟨⟨(congrArg Prod.fst sT_381), G⟩, trivial⟩ ?_
  refine wp_br (P := True) (c := (mx_i h 381 10) ≤ i2) (t := 49) (st' := []) rfl rfl trivial (fun c1 => ?_) (fun c1 => ?_)
  · have c1 := Int32.not_lt.mpr c1
    have H := H.2 c1
    refine wp_steps (i' := 52) (ls' := [some (.ref 381), some (.int i1), some (.int i2)]) (st' := []) (h' := mx_wi h 381 6 0) (P := ((mxT 381).1 = 11 ∧ mxG h) ∧ True) 3 rfl rfl ⟨⟨(congrArg Prod.fst sT_381), G⟩, trivial⟩ ?_
    obtain ⟨h2, e3⟩ : ∃ z9, z9 = mx_wi h 381 6 0 := ⟨_, rfl⟩
    rw [← e3]
    have H := H h2 e3
    have G4 : mxG h2 := e3 ▸ mxG_wi G
    refine wp_steps (i' := 53) (ls' := [some (.ref 381), some (.int i1), some (.int i2)]) (st' := [.int i1]) (h' := h2) (P := True) 1 rfl rfl trivial ?_
    exact wp_end (o := .inl (some (.int i1))) (h' := h2) (P := True) rfl rfl trivial H
  · have c1 := Int32.not_le.mp c1
    have H := H.1 c1
    obtain ⟨o5, o6, H⟩ := H
    refine wp_steps (i' := 47) (ls' := [some (.ref 381), some (.int i1), some (.int i2)]) (st' := []) (h' := mx_wi h 382 (369 + i2).toNatClampNeg (mx_i h 386 i2.toNatClampNeg)) (P := ((mxT 381).1 = 11 ∧ mxG h) ∧ ((mxT 381).1 = 11 ∧ mxG h) ∧ (((mxT 386).1 = 50 ∧ mxG h) ∧ vp_in i2 (mxT 386).2) ∧ (((mxT 382).1 = 50 ∧ mxG h) ∧ vp_in (369 + i2) (mxT 382).2) ∧ True) 10 rfl rfl ⟨⟨(congrArg Prod.fst sT_381), G⟩, ⟨(congrArg Prod.fst sT_381), G⟩, (cA sT_386 G o5), (cA sT_382 G o6), trivial⟩ ?_
    obtain ⟨h7, e8⟩ : ∃ z9, z9 = mx_wi h 382 (369 + i2).toNatClampNeg (mx_i h 386 i2.toNatClampNeg) := ⟨_, rfl⟩
    rw [← e8]
    have H := H h7 e8
    have G9 : mxG h7 := e8 ▸ mxG_wi G
    refine wp_steps (i' := 48) (ls' := [some (.ref 381), some (.int i1), some (.int (i2 + 1))]) (st' := []) (h' := h7) (P := True) 1 rfl rfl trivial ?_
    refine wp_J (j := 33) (st' := []) rfl rfl ?_
    exact H 
def F_235_33 (i1 : Int32) (z : Nat) (s : mxH) : mxH := (mx_wi s 382 (369 + (nI z)).toNatClampNeg (mx_i s 386 (nI z).toNatClampNeg))
theorem K_235_33 {i1 : Int32} (z : Nat) (s : mxH) : mxK s ((F_235_33 i1) z s) := by
  unfold F_235_33
  (try simp only []); repeat' (first | with_reducible exact mxK_rfl | with_reducible exact mxK_wi | with_reducible exact mxK_wrow | with_reducible refine mxK_ite ?_ ?_ | with_reducible refine mxK_tr ?_ mxK_wi | with_reducible refine mxK_tr ?_ mxK_wrow)
theorem lp_235_33 {d : Nat} {Q : mxO → mxH → Prop} {i1 : Int32} {s0 : mxH} {n : Nat} (z0 : Nat) (G : mxG s0)  (hB : ∀ z, z0 ≤ z → z ≤ n → (mx_i (fz (F_235_33 i1) z0 z s0) 381 10) = nI n) (hn : n < 2147483648) (hz : z0 ≤ n) (ob : ∀ z, z0 ≤ z → z < n → (vp_in (nI z) 400 ∧ vp_in (369 + (nI z)) 769 ∧ True)) (k : (∀ h2, h2 = mx_wi (fz (F_235_33 i1) z0 n s0) 381 6 0 → Q (.inl (some (.int i1))) h2)) : H_235_33 (d + 33) s0 i1 (nI z0) Q := by
  have L : ∀ (j z : Nat), z0 ≤ z → z + j = n → H_235_33 (d + 33) (fz (F_235_33 i1) z0 z s0) i1 (nI z) Q := by
    intro j
    induction j with
    | zero =>
      intro z hz0 hzn
      have hzn : z = n := by omega
      subst hzn
      have Gz : mxG (fz (F_235_33 i1) z0 z s0) := mxK_G (mxK_fz (g := fun s => s) (fun z s => K_235_33 z s) z0 z s0) G
      have hBz := hB z hz0 (by omega)
      refine tr_235_33 Gz  ⟨fun c9 => absurd (hBz ▸ c9) Int32.lt_irrefl, fun c9 => k⟩
    | succ j ih =>
      intro z hz0 hzn
      have hih := ih (z + 1) (by omega) (by omega)
      rw [nI_succ, fz_s hz0] at hih
      have Gz : mxG (fz (F_235_33 i1) z0 z s0) := mxK_G (mxK_fz (g := fun s => s) (fun z s => K_235_33 z s) z0 z s0) G
      have hBz := hB z hz0 (by omega)
      have hob := ob z hz0 (by omega)
      refine tr_235_33 Gz  ⟨fun c9 => ?_, fun c9 => absurd (hBz.symm ▸ nI_lt (by omega) hn) c9⟩
      obtain ⟨q0, q1, hob⟩ := hob
      refine ⟨q0, q1, ?_⟩
      intro h7 eh7
      subst eh7
      exact hih
  have L0 := L (n - z0) z0 (Nat.le_refl _) (by omega)
  simp only [fz_0] at L0
  exact L0
/-! 237: StoneBacksModel.asks(I)V -/
set_option maxRecDepth 8000 in
theorem tr_237_0 {d : Nat} {h : mxH} {Q : mxO → mxH → Prop} {i1 : Int32} (G : mxG h)  (H : (cB (mx_i h 382 4) 10 ∧ (∀ (v2 : Int32), v2 = ((if (mx_i h 382 1) = (-1) then 1 else 0) : Int32) → (∀ (v3 : Int32), v3 = ((if v2 = 0 then 0 else ((V_205 (mx_i h 382) i1) / 4)) : Int32) → (∀ h4, h4 = mx_wi h 381 17 v3 → (∀ (v7 : Int32), v7 = ((if v2 = 0 then 0 else (V_193 (mx_i h4 382) (0 : Int32) (10 - ((V_205 (mx_i h 382) i1) / 4)))) : Int32) → (∀ h8, h8 = mx_wi h4 381 18 v7 → (((v2 = 0 → True) ∧ (¬ v2 = 0 → (vp_in ((33 + (6 * i1)) + (1 : Int32)) 769 ∧ True))) ∧ (∀ (v11 : Int32), v11 = ((if v2 = 0 then 0 else (V_193 (mx_i h8 382) (0 : Int32) ((V_205 (mx_i h 382) i1) - (V_196 (mx_i h8 382) i1 (1 : Int32))))) : Int32) → (∀ h12, h12 = mx_wi h8 381 19 v11 → ((v2 = 0 → (∀ h16, h16 = mx_wi h12 387 0 i1 → (∀ h19, h19 = mx_wi h16 387 1 (V_205 (mx_i h 382) i1) → (vp_in ((33 + (6 * i1)) + (1 : Int32)) 769 ∧ (∀ h23, h23 = mx_wi h19 387 2 (V_196 (mx_i h19 382) i1 (1 : Int32)) → (vp_in ((33 + (6 * i1)) + (2 : Int32)) 769 ∧ (∀ h27, h27 = mx_wi h23 387 3 (V_196 (mx_i h23 382) i1 (2 : Int32)) → (vp_in (9 + (V_196 (mx_i h27 382) i1 (2 : Int32))) 769 ∧ (∀ h31, h31 = mx_wi h27 387 4 (mx_i h27 382 (9 + (V_196 (mx_i h27 382) i1 (2 : Int32))).toNatClampNeg) → (vp_in ((33 + (6 * i1)) + (4 : Int32)) 769 ∧ (∀ h35, h35 = mx_wi h31 387 5 (V_196 (mx_i h31 382) i1 (4 : Int32)) → (∀ h38, h38 = mx_wi h35 387 6 ((mx_i h35 382 5) - (mx_i h35 382 5) / 24 * 24) → (vp_in ((33 + (6 * i1)) + (3 : Int32)) 769 ∧ (∀ (v42 : Int32), v42 = ((if (V_196 (mx_i h38 382) i1 (2 : Int32)) = (V_196 (mx_i h38 382) i1 (3 : Int32)) then 1 else 0) : Int32) → ((v42 = 0 ∨ v42 = 1) ∧ (∀ h44, h44 = mx_wi h38 381 15 v42 → (∀ (v47 : Int32), v47 = ((if (V_205 (mx_i h 382) i1) = 0 then 1 else 0) : Int32) → ((v47 = 0 ∨ v47 = 1) ∧ (∀ h49, h49 = mx_wi h44 381 16 v47 → (∀ h52, h52 = mx_wi h49 381 12 (-1) → (∀ h55, h55 = mx_wi h52 381 9 369 → (∀ h58, h58 = mx_wi h55 381 10 (mx_i h55 382 2) → (∀ h61, h61 = mx_wi h58 381 11 0 → (∀ h64, h64 = mx_wi h61 381 13 0 → (¬ (1 : Int32) = 0 ∧ okT h64 ∧ mx_i h64 381 11 = 0 ∧ mx_i h64 381 12 = -1 ∧ fc01 h64 ∧ mx_i h64 381 13 = 0 ∧ (∀ (x73 : Int32) (h74 : mxH), p224 h64 x73 h74 → (∀ h77, h77 = mx_wi h74 381 12 (mx_i h49 381 12) → Q (.inl none) h77))))))))))))))))))))))))))) ∧ (¬ v2 = 0 → Q (.inl none) h12)))))))))))) : mx_wp (d + 33) 237 0 (mx_fr 237 [.ref 381, .int i1]) [] h Q := by
  show mx_wp (d + 33) 237 0 [some (.ref 381), some (.int i1), none, none, none, none] [] h Q
  refine wp_steps (i' := 2) (ls' := [some (.ref 381), some (.int i1), none, none, none, none]) (st' := [.int i1, .ref 381]) (h' := h) (P := True) 2 rfl rfl trivial ?_
  obtain ⟨o1, H⟩ := H
  refine wp_call (b := false) (y' := 205) (as := [.ref 381, .int i1]) (rest := []) (P := ((mxT 381).1 = mxRc 205 ∧ mxG h)) rfl (by with_unfolding_all rfl) ⟨(congrArg Prod.fst sT_381), G⟩ (Nat.le_of_ble_eq_true rfl) (sp_205 G o1 ?_)
  show mx_wp (d + 33) 237 3 [some (.ref 381), some (.int i1), none, none, none, none] [.int (V_205 (mx_i h 382) i1)] h Q
  refine wp_steps (i' := 9) (ls' := [some (.ref 381), some (.int i1), some (.int (V_205 (mx_i h 382) i1)), none, none, none]) (st' := [.int (-1), .int (mx_i h 382 1)]) (h' := h) (P := ((mxT 381).1 = 11 ∧ mxG h) ∧ (((mxT 382).1 = 50 ∧ mxG h) ∧ vp_in 1 (mxT 382).2) ∧ True) 6 rfl rfl ⟨⟨(congrArg Prod.fst sT_381), G⟩, (cA sT_382 G (vpl rfl)), trivial⟩ ?_
  have J : ∀ (v2 : Int32) (ev2 : v2 = ((if (mx_i h 382 1) = (-1) then 1 else 0) : Int32)), mx_wp (d + 33) 237 13 [some (.ref 381), some (.int i1), some (.int (V_205 (mx_i h 382) i1)), none, none, none] [.int v2] h Q := by
    intro v2 ev2
    have H := H v2 ev2
    refine wp_steps (i' := 16) (ls' := [some (.ref 381), some (.int i1), some (.int (V_205 (mx_i h 382) i1)), some (.int v2), none, none]) (st' := [.int v2, .ref 381]) (h' := h) (P := True) 3 rfl rfl trivial ?_
    have J : ∀ (v3 : Int32) (ev3 : v3 = ((if v2 = 0 then 0 else ((V_205 (mx_i h 382) i1) / 4)) : Int32)), mx_wp (d + 33) 237 22 [some (.ref 381), some (.int i1), some (.int (V_205 (mx_i h 382) i1)), some (.int v2), none, none] [.int v3, .ref 381] h Q := by
      intro v3 ev3
      have H := H v3 ev3
      refine wp_steps (i' := 23) (ls' := [some (.ref 381), some (.int i1), some (.int (V_205 (mx_i h 382) i1)), some (.int v2), none, none]) (st' := []) (h' := mx_wi h 381 17 v3) (P := ((mxT 381).1 = 11 ∧ mxG h) ∧ True) 1 rfl rfl ⟨⟨(congrArg Prod.fst sT_381), G⟩, trivial⟩ ?_
      obtain ⟨h4, e5⟩ : ∃ z9, z9 = mx_wi h 381 17 v3 := ⟨_, rfl⟩
      rw [← e5]
      have H := H h4 e5
      have G6 : mxG h4 := e5 ▸ mxG_wi G
      refine wp_steps (i' := 25) (ls' := [some (.ref 381), some (.int i1), some (.int (V_205 (mx_i h 382) i1)), some (.int v2), none, none]) (st' := [.int v2, .ref 381]) (h' := h4) (P := True) 2 rfl rfl trivial ?_
      have J : ∀ (v7 : Int32) (ev7 : v7 = ((if v2 = 0 then 0 else (V_193 (mx_i h4 382) (0 : Int32) (10 - ((V_205 (mx_i h 382) i1) / 4)))) : Int32)), mx_wp (d + 33) 237 35 [some (.ref 381), some (.int i1), some (.int (V_205 (mx_i h 382) i1)), some (.int v2), none, none] [.int v7, .ref 381] h4 Q := by
        intro v7 ev7
        have H := H v7 ev7
        refine wp_steps (i' := 36) (ls' := [some (.ref 381), some (.int i1), some (.int (V_205 (mx_i h 382) i1)), some (.int v2), none, none]) (st' := []) (h' := mx_wi h4 381 18 v7) (P := ((mxT 381).1 = 11 ∧ mxG h4) ∧ True) 1 rfl rfl ⟨⟨(congrArg Prod.fst sT_381), G6⟩, trivial⟩ ?_
        obtain ⟨h8, e9⟩ : ∃ z9, z9 = mx_wi h4 381 18 v7 := ⟨_, rfl⟩
        rw [← e9]
        have H := H h8 e9
        have G10 : mxG h8 := e9 ▸ mxG_wi G6
        refine wp_steps (i' := 38) (ls' := [some (.ref 381), some (.int i1), some (.int (V_205 (mx_i h 382) i1)), some (.int v2), none, none]) (st' := [.int v2, .ref 381]) (h' := h8) (P := True) 2 rfl rfl trivial ?_
        have J : ∀ (v11 : Int32) (ev11 : v11 = ((if v2 = 0 then 0 else (V_193 (mx_i h8 382) (0 : Int32) ((V_205 (mx_i h 382) i1) - (V_196 (mx_i h8 382) i1 (1 : Int32))))) : Int32)), mx_wp (d + 33) 237 49 [some (.ref 381), some (.int i1), some (.int (V_205 (mx_i h 382) i1)), some (.int v2), none, none] [.int v11, .ref 381] h8 Q := by
          intro v11 ev11
          have H := H.2 v11 ev11
          refine wp_steps (i' := 50) (ls' := [some (.ref 381), some (.int i1), some (.int (V_205 (mx_i h 382) i1)), some (.int v2), none, none]) (st' := []) (h' := mx_wi h8 381 19 v11) (P := ((mxT 381).1 = 11 ∧ mxG h8) ∧ True) 1 rfl rfl ⟨⟨(congrArg Prod.fst sT_381), G10⟩, trivial⟩ ?_
          obtain ⟨h12, e13⟩ : ∃ z9, z9 = mx_wi h8 381 19 v11 := ⟨_, rfl⟩
          rw [← e13]
          have H := H h12 e13
          have G14 : mxG h12 := e13 ▸ mxG_wi G10
          refine wp_steps (i' := 51) (ls' := [some (.ref 381), some (.int i1), some (.int (V_205 (mx_i h 382) i1)), some (.int v2), none, none]) (st' := [.int v2]) (h' := h12) (P := True) 1 rfl rfl trivial ?_
          refine wp_br (P := True) (c := v2 = 0) (t := 53) (st' := []) rfl rfl trivial (fun c15 => ?_) (fun c15 => ?_)
          · skip
            have H := H.1 c15
            refine wp_steps (i' := 58) (ls' := [some (.ref 381), some (.int i1), some (.int (V_205 (mx_i h 382) i1)), some (.int v2), none, none]) (st' := []) (h' := mx_wi h12 387 0 i1) (P := ((mxT 381).1 = 11 ∧ mxG h12) ∧ (((mxT 387).1 = 50 ∧ mxG h12) ∧ vp_in 0 (mxT 387).2) ∧ True) 5 rfl rfl ⟨⟨(congrArg Prod.fst sT_381), G14⟩, (cA sT_387 G14 (vpl rfl)), trivial⟩ ?_
            obtain ⟨h16, e17⟩ : ∃ z9, z9 = mx_wi h12 387 0 i1 := ⟨_, rfl⟩
            rw [← e17]
            have H := H h16 e17
            have G18 : mxG h16 := e17 ▸ mxG_wi G14
            refine wp_steps (i' := 63) (ls' := [some (.ref 381), some (.int i1), some (.int (V_205 (mx_i h 382) i1)), some (.int v2), none, none]) (st' := []) (h' := mx_wi h16 387 1 (V_205 (mx_i h 382) i1)) (P := ((mxT 381).1 = 11 ∧ mxG h16) ∧ (((mxT 387).1 = 50 ∧ mxG h16) ∧ vp_in 1 (mxT 387).2) ∧ True) 5 rfl rfl ⟨⟨(congrArg Prod.fst sT_381), G18⟩, (cA sT_387 G18 (vpl rfl)), trivial⟩ ?_
            obtain ⟨h19, e20⟩ : ∃ z9, z9 = mx_wi h16 387 1 (V_205 (mx_i h 382) i1) := ⟨_, rfl⟩
            rw [← e20]
            have H := H h19 e20
            have G21 : mxG h19 := e20 ▸ mxG_wi G18
            refine wp_steps (i' := 69) (ls' := [some (.ref 381), some (.int i1), some (.int (V_205 (mx_i h 382) i1)), some (.int v2), none, none]) (st' := [.int 1, .int i1, .ref 381, .int 2, .ref 387]) (h' := h19) (P := ((mxT 381).1 = 11 ∧ mxG h19) ∧ True) 6 rfl rfl ⟨⟨(congrArg Prod.fst sT_381), G21⟩, trivial⟩ ?_
            obtain ⟨o22, H⟩ := H
            refine wp_call (b := false) (y' := 196) (as := [.ref 381, .int i1, .int 1]) (rest := [.int 2, .ref 387]) (P := ((mxT 381).1 = mxRc 196 ∧ mxG h19)) rfl (by with_unfolding_all rfl) ⟨(congrArg Prod.fst sT_381), G21⟩ (Nat.le_of_ble_eq_true rfl) (sp_196 G21 o22 ?_)
            show mx_wp (d + 33) 237 70 [some (.ref 381), some (.int i1), some (.int (V_205 (mx_i h 382) i1)), some (.int v2), none, none] [.int (V_196 (mx_i h19 382) i1 (1 : Int32)), .int 2, .ref 387] h19 Q
            refine wp_steps (i' := 71) (ls' := [some (.ref 381), some (.int i1), some (.int (V_205 (mx_i h 382) i1)), some (.int v2), none, none]) (st' := []) (h' := mx_wi h19 387 2 (V_196 (mx_i h19 382) i1 (1 : Int32))) (P := (((mxT 387).1 = 50 ∧ mxG h19) ∧ vp_in 2 (mxT 387).2) ∧ True) 1 rfl rfl ⟨(cA sT_387 G21 (vpl rfl)), trivial⟩ ?_
            obtain ⟨h23, e24⟩ : ∃ z9, z9 = mx_wi h19 387 2 (V_196 (mx_i h19 382) i1 (1 : Int32)) := ⟨_, rfl⟩
            rw [← e24]
            have H := H h23 e24
            have G25 : mxG h23 := e24 ▸ mxG_wi G21
            refine wp_steps (i' := 77) (ls' := [some (.ref 381), some (.int i1), some (.int (V_205 (mx_i h 382) i1)), some (.int v2), none, none]) (st' := [.int 2, .int i1, .ref 381, .int 3, .ref 387]) (h' := h23) (P := ((mxT 381).1 = 11 ∧ mxG h23) ∧ True) 6 rfl rfl ⟨⟨(congrArg Prod.fst sT_381), G25⟩, trivial⟩ ?_
            obtain ⟨o26, H⟩ := H
            refine wp_call (b := false) (y' := 196) (as := [.ref 381, .int i1, .int 2]) (rest := [.int 3, .ref 387]) (P := ((mxT 381).1 = mxRc 196 ∧ mxG h23)) rfl (by with_unfolding_all rfl) ⟨(congrArg Prod.fst sT_381), G25⟩ (Nat.le_of_ble_eq_true rfl) (sp_196 G25 o26 ?_)
            show mx_wp (d + 33) 237 78 [some (.ref 381), some (.int i1), some (.int (V_205 (mx_i h 382) i1)), some (.int v2), none, none] [.int (V_196 (mx_i h23 382) i1 (2 : Int32)), .int 3, .ref 387] h23 Q
            refine wp_steps (i' := 79) (ls' := [some (.ref 381), some (.int i1), some (.int (V_205 (mx_i h 382) i1)), some (.int v2), none, none]) (st' := []) (h' := mx_wi h23 387 3 (V_196 (mx_i h23 382) i1 (2 : Int32))) (P := (((mxT 387).1 = 50 ∧ mxG h23) ∧ vp_in 3 (mxT 387).2) ∧ True) 1 rfl rfl ⟨(cA sT_387 G25 (vpl rfl)), trivial⟩ ?_
            obtain ⟨h27, e28⟩ : ∃ z9, z9 = mx_wi h23 387 3 (V_196 (mx_i h23 382) i1 (2 : Int32)) := ⟨_, rfl⟩
            rw [← e28]
            have H := H h27 e28
            have G29 : mxG h27 := e28 ▸ mxG_wi G25
            refine wp_steps (i' := 88) (ls' := [some (.ref 381), some (.int i1), some (.int (V_205 (mx_i h 382) i1)), some (.int v2), none, none]) (st' := [.int 2, .int i1, .ref 381, .int 9, .ref 382, .int 4, .ref 387]) (h' := h27) (P := ((mxT 381).1 = 11 ∧ mxG h27) ∧ ((mxT 381).1 = 11 ∧ mxG h27) ∧ True) 9 rfl rfl ⟨⟨(congrArg Prod.fst sT_381), G29⟩, ⟨(congrArg Prod.fst sT_381), G29⟩, trivial⟩ ?_
            refine wp_call (b := false) (y' := 196) (as := [.ref 381, .int i1, .int 2]) (rest := [.int 9, .ref 382, .int 4, .ref 387]) (P := ((mxT 381).1 = mxRc 196 ∧ mxG h27)) rfl (by with_unfolding_all rfl) ⟨(congrArg Prod.fst sT_381), G29⟩ (Nat.le_of_ble_eq_true rfl) (sp_196 G29 o26 ?_)
            show mx_wp (d + 33) 237 89 [some (.ref 381), some (.int i1), some (.int (V_205 (mx_i h 382) i1)), some (.int v2), none, none] [.int (V_196 (mx_i h27 382) i1 (2 : Int32)), .int 9, .ref 382, .int 4, .ref 387] h27 Q
            obtain ⟨o30, H⟩ := H
            refine wp_steps (i' := 92) (ls' := [some (.ref 381), some (.int i1), some (.int (V_205 (mx_i h 382) i1)), some (.int v2), none, none]) (st' := []) (h' := mx_wi h27 387 4 (mx_i h27 382 (9 + (V_196 (mx_i h27 382) i1 (2 : Int32))).toNatClampNeg)) (P := (((mxT 382).1 = 50 ∧ mxG h27) ∧ vp_in (9 + (V_196 (mx_i h27 382) i1 (2 : Int32))) (mxT 382).2) ∧ (((mxT 387).1 = 50 ∧ mxG h27) ∧ vp_in 4 (mxT 387).2) ∧ True) 3 rfl rfl ⟨(cA sT_382 G29 o30), (cA sT_387 G29 (vpl rfl)), trivial⟩ ?_
            obtain ⟨h31, e32⟩ : ∃ z9, z9 = mx_wi h27 387 4 (mx_i h27 382 (9 + (V_196 (mx_i h27 382) i1 (2 : Int32))).toNatClampNeg) := ⟨_, rfl⟩
            rw [← e32]
            have H := H h31 e32
            have G33 : mxG h31 := e32 ▸ mxG_wi G29
            refine wp_steps (i' := 98) (ls' := [some (.ref 381), some (.int i1), some (.int (V_205 (mx_i h 382) i1)), some (.int v2), none, none]) (st' := [.int 4, .int i1, .ref 381, .int 5, .ref 387]) (h' := h31) (P := ((mxT 381).1 = 11 ∧ mxG h31) ∧ True) 6 rfl rfl ⟨⟨(congrArg Prod.fst sT_381), G33⟩, trivial⟩ ?_
            obtain ⟨o34, H⟩ := H
            refine wp_call (b := false) (y' := 196) (as := [.ref 381, .int i1, .int 4]) (rest := [.int 5, .ref 387]) (P := ((mxT 381).1 = mxRc 196 ∧ mxG h31)) rfl (by with_unfolding_all rfl) ⟨(congrArg Prod.fst sT_381), G33⟩ (Nat.le_of_ble_eq_true rfl) (sp_196 G33 o34 ?_)
            show mx_wp (d + 33) 237 99 [some (.ref 381), some (.int i1), some (.int (V_205 (mx_i h 382) i1)), some (.int v2), none, none] [.int (V_196 (mx_i h31 382) i1 (4 : Int32)), .int 5, .ref 387] h31 Q
            refine wp_steps (i' := 100) (ls' := [some (.ref 381), some (.int i1), some (.int (V_205 (mx_i h 382) i1)), some (.int v2), none, none]) (st' := []) (h' := mx_wi h31 387 5 (V_196 (mx_i h31 382) i1 (4 : Int32))) (P := (((mxT 387).1 = 50 ∧ mxG h31) ∧ vp_in 5 (mxT 387).2) ∧ True) 1 rfl rfl ⟨(cA sT_387 G33 (vpl rfl)), trivial⟩ ?_
            obtain ⟨h35, e36⟩ : ∃ z9, z9 = mx_wi h31 387 5 (V_196 (mx_i h31 382) i1 (4 : Int32)) := ⟨_, rfl⟩
            rw [← e36]
            have H := H h35 e36
            have G37 : mxG h35 := e36 ▸ mxG_wi G33
            refine wp_steps (i' := 110) (ls' := [some (.ref 381), some (.int i1), some (.int (V_205 (mx_i h 382) i1)), some (.int v2), none, none]) (st' := []) (h' := mx_wi h35 387 6 ((mx_i h35 382 5) - (mx_i h35 382 5) / 24 * 24)) (P := ((mxT 381).1 = 11 ∧ mxG h35) ∧ ((mxT 381).1 = 11 ∧ mxG h35) ∧ (((mxT 382).1 = 50 ∧ mxG h35) ∧ vp_in 5 (mxT 382).2) ∧ (¬ (24 : Int32) = 0) ∧ (((mxT 387).1 = 50 ∧ mxG h35) ∧ vp_in 6 (mxT 387).2) ∧ True) 10 rfl rfl ⟨⟨(congrArg Prod.fst sT_381), G37⟩, ⟨(congrArg Prod.fst sT_381), G37⟩, (cA sT_382 G37 (vpl rfl)), (by decide), (cA sT_387 G37 (vpl rfl)), trivial⟩ ?_
            obtain ⟨h38, e39⟩ : ∃ z9, z9 = mx_wi h35 387 6 ((mx_i h35 382 5) - (mx_i h35 382 5) / 24 * 24) := ⟨_, rfl⟩
            rw [← e39]
            have H := H h38 e39
            have G40 : mxG h38 := e39 ▸ mxG_wi G37
            refine wp_steps (i' := 114) (ls' := [some (.ref 381), some (.int i1), some (.int (V_205 (mx_i h 382) i1)), some (.int v2), none, none]) (st' := [.int 2, .int i1, .ref 381, .ref 381]) (h' := h38) (P := True) 4 rfl rfl trivial ?_
            refine wp_call (b := false) (y' := 196) (as := [.ref 381, .int i1, .int 2]) (rest := [.ref 381]) (P := ((mxT 381).1 = mxRc 196 ∧ mxG h38)) rfl (by with_unfolding_all rfl) ⟨(congrArg Prod.fst sT_381), G40⟩ (Nat.le_of_ble_eq_true rfl) (sp_196 G40 o26 ?_)
            show mx_wp (d + 33) 237 115 [some (.ref 381), some (.int i1), some (.int (V_205 (mx_i h 382) i1)), some (.int v2), none, none] [.int (V_196 (mx_i h38 382) i1 (2 : Int32)), .ref 381] h38 Q
            refine wp_steps (i' := 118) (ls' := [some (.ref 381), some (.int i1), some (.int (V_205 (mx_i h 382) i1)), some (.int v2), none, none]) (st' := [.int 3, .int i1, .ref 381, .int (V_196 (mx_i h38 382) i1 (2 : Int32)), .ref 381]) (h' := h38) (P := True) 3 rfl rfl trivial ?_
            obtain ⟨o41, H⟩ := H
            refine wp_call (b := false) (y' := 196) (as := [.ref 381, .int i1, .int 3]) (rest := [.int (V_196 (mx_i h38 382) i1 (2 : Int32)), .ref 381]) (P := ((mxT 381).1 = mxRc 196 ∧ mxG h38)) rfl (by with_unfolding_all rfl) ⟨(congrArg Prod.fst sT_381), G40⟩ (Nat.le_of_ble_eq_true rfl) (sp_196 G40 o41 ?_)
            show mx_wp (d + 33) 237 119 [some (.ref 381), some (.int i1), some (.int (V_205 (mx_i h 382) i1)), some (.int v2), none, none] [.int (V_196 (mx_i h38 382) i1 (3 : Int32)), .int (V_196 (mx_i h38 382) i1 (2 : Int32)), .ref 381] h38 Q
            have J : ∀ (v42 : Int32) (ev42 : v42 = ((if (V_196 (mx_i h38 382) i1 (2 : Int32)) = (V_196 (mx_i h38 382) i1 (3 : Int32)) then 1 else 0) : Int32)), mx_wp (d + 33) 237 123 [some (.ref 381), some (.int i1), some (.int (V_205 (mx_i h 382) i1)), some (.int v2), none, none] [.int v42, .ref 381] h38 Q := by
              intro v42 ev42
              have H := H v42 ev42
              obtain ⟨o43, H⟩ := H
              refine wp_steps (i' := 124) (ls' := [some (.ref 381), some (.int i1), some (.int (V_205 (mx_i h 382) i1)), some (.int v2), none, none]) (st' := []) (h' := mx_wi h38 381 15 v42) (P := (((mxT 381).1 = 11 ∧ mxG h38) ∧ (v42 = 0 ∨ v42 = 1)) ∧ True) 1 rfl rfl ⟨⟨⟨(congrArg Prod.fst sT_381), G40⟩, o43⟩, trivial⟩ ?_
              obtain ⟨h44, e45⟩ : ∃ z9, z9 = mx_wi h38 381 15 v42 := ⟨_, rfl⟩
              rw [← e45]
              have H := H h44 e45
              have G46 : mxG h44 := e45 ▸ mxG_wi G40
              refine wp_steps (i' := 126) (ls' := [some (.ref 381), some (.int i1), some (.int (V_205 (mx_i h 382) i1)), some (.int v2), none, none]) (st' := [.int (V_205 (mx_i h 382) i1), .ref 381]) (h' := h44) (P := True) 2 rfl rfl trivial ?_
              have J : ∀ (v47 : Int32) (ev47 : v47 = ((if (V_205 (mx_i h 382) i1) = 0 then 1 else 0) : Int32)), mx_wp (d + 33) 237 130 [some (.ref 381), some (.int i1), some (.int (V_205 (mx_i h 382) i1)), some (.int v2), none, none] [.int v47, .ref 381] h44 Q := by
                intro v47 ev47
                have H := H v47 ev47
                obtain ⟨o48, H⟩ := H
                refine wp_steps (i' := 131) (ls' := [some (.ref 381), some (.int i1), some (.int (V_205 (mx_i h 382) i1)), some (.int v2), none, none]) (st' := []) (h' := mx_wi h44 381 16 v47) (P := (((mxT 381).1 = 11 ∧ mxG h44) ∧ (v47 = 0 ∨ v47 = 1)) ∧ True) 1 rfl rfl ⟨⟨⟨(congrArg Prod.fst sT_381), G46⟩, o48⟩, trivial⟩ ?_
                obtain ⟨h49, e50⟩ : ∃ z9, z9 = mx_wi h44 381 16 v47 := ⟨_, rfl⟩
                rw [← e50]
                have H := H h49 e50
                have G51 : mxG h49 := e50 ▸ mxG_wi G46
                refine wp_steps (i' := 137) (ls' := [some (.ref 381), some (.int i1), some (.int (V_205 (mx_i h 382) i1)), some (.int v2), some (.int (mx_i h49 381 12)), none]) (st' := []) (h' := mx_wi h49 381 12 (-1)) (P := ((mxT 381).1 = 11 ∧ mxG h49) ∧ ((mxT 381).1 = 11 ∧ mxG h49) ∧ True) 6 rfl rfl ⟨⟨(congrArg Prod.fst sT_381), G51⟩, ⟨(congrArg Prod.fst sT_381), G51⟩, trivial⟩ ?_
                obtain ⟨h52, e53⟩ : ∃ z9, z9 = mx_wi h49 381 12 (-1) := ⟨_, rfl⟩
                rw [← e53]
                have H := H h52 e53
                have G54 : mxG h52 := e53 ▸ mxG_wi G51
                refine wp_steps (i' := 140) (ls' := [some (.ref 381), some (.int i1), some (.int (V_205 (mx_i h 382) i1)), some (.int v2), some (.int (mx_i h49 381 12)), none]) (st' := []) (h' := mx_wi h52 381 9 369) (P := ((mxT 381).1 = 11 ∧ mxG h52) ∧ True) 3 rfl rfl ⟨⟨(congrArg Prod.fst sT_381), G54⟩, trivial⟩ ?_
                obtain ⟨h55, e56⟩ : ∃ z9, z9 = mx_wi h52 381 9 369 := ⟨_, rfl⟩
                rw [← e56]
                have H := H h55 e56
                have G57 : mxG h55 := e56 ▸ mxG_wi G54
                refine wp_steps (i' := 146) (ls' := [some (.ref 381), some (.int i1), some (.int (V_205 (mx_i h 382) i1)), some (.int v2), some (.int (mx_i h49 381 12)), none]) (st' := []) (h' := mx_wi h55 381 10 (mx_i h55 382 2)) (P := ((mxT 381).1 = 11 ∧ mxG h55) ∧ (((mxT 382).1 = 50 ∧ mxG h55) ∧ vp_in 2 (mxT 382).2) ∧ ((mxT 381).1 = 11 ∧ mxG h55) ∧ True) 6 rfl rfl ⟨⟨(congrArg Prod.fst sT_381), G57⟩, (cA sT_382 G57 (vpl rfl)), ⟨(congrArg Prod.fst sT_381), G57⟩, trivial⟩ ?_
                obtain ⟨h58, e59⟩ : ∃ z9, z9 = mx_wi h55 381 10 (mx_i h55 382 2) := ⟨_, rfl⟩
                rw [← e59]
                have H := H h58 e59
                have G60 : mxG h58 := e59 ▸ mxG_wi G57
                refine wp_steps (i' := 149) (ls' := [some (.ref 381), some (.int i1), some (.int (V_205 (mx_i h 382) i1)), some (.int v2), some (.int (mx_i h49 381 12)), none]) (st' := []) (h' := mx_wi h58 381 11 0) (P := ((mxT 381).1 = 11 ∧ mxG h58) ∧ True) 3 rfl rfl ⟨⟨(congrArg Prod.fst sT_381), G60⟩, trivial⟩ ?_
                obtain ⟨h61, e62⟩ : ∃ z9, z9 = mx_wi h58 381 11 0 := ⟨_, rfl⟩
                rw [← e62]
                have H := H h61 e62
                have G63 : mxG h61 := e62 ▸ mxG_wi G60
                refine wp_steps (i' := 152) (ls' := [some (.ref 381), some (.int i1), some (.int (V_205 (mx_i h 382) i1)), some (.int v2), some (.int (mx_i h49 381 12)), none]) (st' := []) (h' := mx_wi h61 381 13 0) (P := ((mxT 381).1 = 11 ∧ mxG h61) ∧ True) 3 rfl rfl ⟨⟨(congrArg Prod.fst sT_381), G63⟩, trivial⟩ ?_
                obtain ⟨h64, e65⟩ : ∃ z9, z9 = mx_wi h61 381 13 0 := ⟨_, rfl⟩
                rw [← e65]
                have H := H h64 e65
                have G66 : mxG h64 := e65 ▸ mxG_wi G63
                refine wp_steps (i' := 154) (ls' := [some (.ref 381), some (.int i1), some (.int (V_205 (mx_i h 382) i1)), some (.int v2), some (.int (mx_i h49 381 12)), none]) (st' := [.int 1, .ref 381]) (h' := h64) (P := True) 2 rfl rfl trivial ?_
                obtain ⟨o67, o68, o69, o70, o71, o72, H⟩ := H
                refine wp_call (b := false) (y' := 224) (as := [.ref 381, .int 1]) (rest := []) (P := ((mxT 381).1 = mxRc 224 ∧ mxG h64)) rfl (by with_unfolding_all rfl) ⟨(congrArg Prod.fst sT_381), G66⟩ (Nat.le_of_ble_eq_true rfl) (sp_224 G66 o67 o68 o69 o70 o71 o72 ?_)
                intro x73 h74 p75
                show mx_wp (d + 33) 237 155 [some (.ref 381), some (.int i1), some (.int (V_205 (mx_i h 382) i1)), some (.int v2), some (.int (mx_i h49 381 12)), none] [.int x73] h74 Q
                have H := H x73 h74 p75
                have G76 : mxG h74 := mxK_G p75.1.1 G66
                refine wp_steps (i' := 159) (ls' := [some (.ref 381), some (.int i1), some (.int (V_205 (mx_i h 382) i1)), some (.int v2), some (.int (mx_i h49 381 12)), some (.int x73)]) (st' := []) (h' := mx_wi h74 381 12 (mx_i h49 381 12)) (P := ((mxT 381).1 = 11 ∧ mxG h74) ∧ True) 4 rfl rfl ⟨⟨(congrArg Prod.fst sT_381), G76⟩, trivial⟩ ?_
                obtain ⟨h77, e78⟩ : ∃ z9, z9 = mx_wi h74 381 12 (mx_i h49 381 12) := ⟨_, rfl⟩
                rw [← e78]
                have H := H h77 e78
                have G79 : mxG h77 := e78 ▸ mxG_wi G76
                exact wp_end (o := .inl none) (h' := h77) (P := True) rfl rfl trivial H
              refine wp_br (P := True) (c := ¬ (V_205 (mx_i h 382) i1) = 0) (t := 129) (st' := [.ref 381]) rfl rfl trivial (fun c80 => ?_) (fun c80 => ?_)
              · skip
                refine wp_steps (i' := 130) (ls' := [some (.ref 381), some (.int i1), some (.int (V_205 (mx_i h 382) i1)), some (.int v2), none, none]) (st' := [.int 0, .ref 381]) (h' := h44) (P := True) 1 rfl rfl trivial ?_
                exact J _ (by rw [if_neg c80])
              · have c80 := Decidable.of_not_not c80
                refine wp_steps (i' := 128) (ls' := [some (.ref 381), some (.int i1), some (.int (V_205 (mx_i h 382) i1)), some (.int v2), none, none]) (st' := [.int 1, .ref 381]) (h' := h44) (P := True) 1 rfl rfl trivial ?_
                refine wp_J (j := 130) (st' := [.int 1, .ref 381]) rfl rfl ?_
                exact J _ (by rw [if_pos c80])
            refine wp_br (P := True) (c := ¬ (V_196 (mx_i h38 382) i1 (2 : Int32)) = (V_196 (mx_i h38 382) i1 (3 : Int32))) (t := 122) (st' := [.ref 381]) rfl rfl trivial (fun c81 => ?_) (fun c81 => ?_)
            · skip
              refine wp_steps (i' := 123) (ls' := [some (.ref 381), some (.int i1), some (.int (V_205 (mx_i h 382) i1)), some (.int v2), none, none]) (st' := [.int 0, .ref 381]) (h' := h38) (P := True) 1 rfl rfl trivial ?_
              exact J _ (by rw [if_neg c81])
            · have c81 := Decidable.of_not_not c81
              refine wp_steps (i' := 121) (ls' := [some (.ref 381), some (.int i1), some (.int (V_205 (mx_i h 382) i1)), some (.int v2), none, none]) (st' := [.int 1, .ref 381]) (h' := h38) (P := True) 1 rfl rfl trivial ?_
              refine wp_J (j := 123) (st' := [.int 1, .ref 381]) rfl rfl ?_
              exact J _ (by rw [if_pos c81])
          · skip
            have H := H.2 c15
            exact wp_end (o := .inl none) (h' := h12) (P := True) rfl rfl trivial H
        have H := H.1
        refine wp_br (P := True) (c := v2 = 0) (t := 48) (st' := [.ref 381]) rfl rfl trivial (fun c82 => ?_) (fun c82 => ?_)
        · skip
          refine wp_steps (i' := 49) (ls' := [some (.ref 381), some (.int i1), some (.int (V_205 (mx_i h 382) i1)), some (.int v2), none, none]) (st' := [.int 0, .ref 381]) (h' := h8) (P := True) 1 rfl rfl trivial ?_
          exact J _ (by rw [if_pos c82])
        · skip
          have H := H.2 c82
          refine wp_steps (i' := 44) (ls' := [some (.ref 381), some (.int i1), some (.int (V_205 (mx_i h 382) i1)), some (.int v2), none, none]) (st' := [.int 1, .int i1, .ref 381, .int (V_205 (mx_i h 382) i1), .int 0, .ref 381]) (h' := h8) (P := True) 5 rfl rfl trivial ?_
          obtain ⟨o83, H⟩ := H
          refine wp_call (b := false) (y' := 196) (as := [.ref 381, .int i1, .int 1]) (rest := [.int (V_205 (mx_i h 382) i1), .int 0, .ref 381]) (P := ((mxT 381).1 = mxRc 196 ∧ mxG h8)) rfl (by with_unfolding_all rfl) ⟨(congrArg Prod.fst sT_381), G10⟩ (Nat.le_of_ble_eq_true rfl) (sp_196 G10 o83 ?_)
          show mx_wp (d + 33) 237 45 [some (.ref 381), some (.int i1), some (.int (V_205 (mx_i h 382) i1)), some (.int v2), none, none] [.int (V_196 (mx_i h8 382) i1 (1 : Int32)), .int (V_205 (mx_i h 382) i1), .int 0, .ref 381] h8 Q
          refine wp_steps (i' := 46) (ls' := [some (.ref 381), some (.int i1), some (.int (V_205 (mx_i h 382) i1)), some (.int v2), none, none]) (st' := [.int ((V_205 (mx_i h 382) i1) - (V_196 (mx_i h8 382) i1 (1 : Int32))), .int 0, .ref 381]) (h' := h8) (P := True) 1 rfl rfl trivial ?_
          refine wp_call (b := false) (y' := 193) (as := [.int 0, .int ((V_205 (mx_i h 382) i1) - (V_196 (mx_i h8 382) i1 (1 : Int32)))]) (rest := [.ref 381]) (P := True) rfl (by with_unfolding_all rfl) trivial (Nat.le_of_ble_eq_true rfl) (sp_193 G10 ?_)
          show mx_wp (d + 33) 237 47 [some (.ref 381), some (.int i1), some (.int (V_205 (mx_i h 382) i1)), some (.int v2), none, none] [.int (V_193 (mx_i h8 382) (0 : Int32) ((V_205 (mx_i h 382) i1) - (V_196 (mx_i h8 382) i1 (1 : Int32)))), .ref 381] h8 Q
          refine wp_J (j := 49) (st' := [.int (V_193 (mx_i h8 382) (0 : Int32) ((V_205 (mx_i h 382) i1) - (V_196 (mx_i h8 382) i1 (1 : Int32)))), .ref 381]) rfl rfl ?_
          exact J _ (by rw [if_neg c82])
      refine wp_br (P := True) (c := v2 = 0) (t := 34) (st' := [.ref 381]) rfl rfl trivial (fun c84 => ?_) (fun c84 => ?_)
      · skip
        refine wp_steps (i' := 35) (ls' := [some (.ref 381), some (.int i1), some (.int (V_205 (mx_i h 382) i1)), some (.int v2), none, none]) (st' := [.int 0, .ref 381]) (h' := h4) (P := True) 1 rfl rfl trivial ?_
        exact J _ (by rw [if_pos c84])
      · skip
        refine wp_steps (i' := 32) (ls' := [some (.ref 381), some (.int i1), some (.int (V_205 (mx_i h 382) i1)), some (.int v2), none, none]) (st' := [.int (10 - ((V_205 (mx_i h 382) i1) / 4)), .int 0, .ref 381]) (h' := h4) (P := (¬ (4 : Int32) = 0) ∧ True) 6 rfl rfl ⟨(by decide), trivial⟩ ?_
        refine wp_call (b := false) (y' := 193) (as := [.int 0, .int (10 - ((V_205 (mx_i h 382) i1) / 4))]) (rest := [.ref 381]) (P := True) rfl (by with_unfolding_all rfl) trivial (Nat.le_of_ble_eq_true rfl) (sp_193 G6 ?_)
        show mx_wp (d + 33) 237 33 [some (.ref 381), some (.int i1), some (.int (V_205 (mx_i h 382) i1)), some (.int v2), none, none] [.int (V_193 (mx_i h4 382) (0 : Int32) (10 - ((V_205 (mx_i h 382) i1) / 4))), .ref 381] h4 Q
        refine wp_J (j := 35) (st' := [.int (V_193 (mx_i h4 382) (0 : Int32) (10 - ((V_205 (mx_i h 382) i1) / 4))), .ref 381]) rfl rfl ?_
        exact J _ (by rw [if_neg c84])
    refine wp_br (P := True) (c := v2 = 0) (t := 21) (st' := [.ref 381]) rfl rfl trivial (fun c85 => ?_) (fun c85 => ?_)
    · skip
      refine wp_steps (i' := 22) (ls' := [some (.ref 381), some (.int i1), some (.int (V_205 (mx_i h 382) i1)), some (.int v2), none, none]) (st' := [.int 0, .ref 381]) (h' := h) (P := True) 1 rfl rfl trivial ?_
      exact J _ (by rw [if_pos c85])
    · skip
      refine wp_steps (i' := 20) (ls' := [some (.ref 381), some (.int i1), some (.int (V_205 (mx_i h 382) i1)), some (.int v2), none, none]) (st' := [.int ((V_205 (mx_i h 382) i1) / 4), .ref 381]) (h' := h) (P := (¬ (4 : Int32) = 0) ∧ True) 3 rfl rfl ⟨(by decide), trivial⟩ ?_
      refine wp_J (j := 22) (st' := [.int ((V_205 (mx_i h 382) i1) / 4), .ref 381]) rfl rfl ?_
      exact J _ (by rw [if_neg c85])
  refine wp_br (P := True) (c := ¬ (mx_i h 382 1) = (-1)) (t := 12) (st' := []) rfl rfl trivial (fun c86 => ?_) (fun c86 => ?_)
  · skip
    refine wp_steps (i' := 13) (ls' := [some (.ref 381), some (.int i1), some (.int (V_205 (mx_i h 382) i1)), none, none, none]) (st' := [.int 0]) (h' := h) (P := True) 1 rfl rfl trivial ?_
    exact J _ (by rw [if_neg c86])
  · have c86 := Decidable.of_not_not c86
    refine wp_steps (i' := 11) (ls' := [some (.ref 381), some (.int i1), some (.int (V_205 (mx_i h 382) i1)), none, none, none]) (st' := [.int 1]) (h' := h) (P := True) 1 rfl rfl trivial ?_
    refine wp_J (j := 13) (st' := [.int 1]) rfl rfl ?_
    exact J _ (by rw [if_pos c86])
