/-! 227: StoneBacksModel.valley()I -/
set_option maxRecDepth 8000 in
theorem trn_227_0 {d : Nat} {h : mxH} {Q : mxO → mxH → Prop}  (G : mxG h)  (H : (∀ h1, h1 = W_225 h → (∀ h5, h5 = W_223 h1 → ((0 : Int32) = 0 ∧ okT h5 ∧ mx_i h5 381 11 = 0 ∧ mx_i h5 381 12 = -1 ∧ mx_i h5 381 9 = -1 ∧ cB (mx_i h5 382 3) 6 ∧ cB (mx_i h5 382 4) 10 ∧ (∀ (x16 : Int32) (h17 : mxH), p224v h5 x16 h17 → (∀ (v20 : Int32), v20 = ((if (mx_i h17 381 12) = (-1) then (if (mx_i h17 382 0) = 12 then 2 else 0) else 1) : Int32) → (∀ h21, h21 = mx_wi h17 381 0 v20 → ((0 < (mx_i h21 381 0) → (∀ h31, h31 = W_226 h21 → Q (.inl (some (.int 0))) h31)) ∧ (¬ 0 < (mx_i h21 381 0) → (∀ h25, h25 = mx_wi h21 382 0 ((mx_i h21 382 0) + 1) → (∀ h28, h28 = mx_wi h25 381 6 0 → Q (.inl (some (.int (mx_i h28 382 0)))) h28))))))))))) : mx_wp (d + 33) 227 0 (mx_fr 227 [.ref 381]) [] h Q := by
  show mx_wp (d + 33) 227 0 [some (.ref 381), none] [] h Q
  refine wp_steps (i' := 1) (ls' := [some (.ref 381), none]) (st' := [.ref 381]) (h' := h) (P := True) 1 rfl rfl trivial ?_
  refine wp_call (b := false) (y' := 225) (as := [.ref 381]) (rest := []) (P := ((mxT 381).1 = mxRc 225 ∧ mxG h)) rfl (by with_unfolding_all rfl) ⟨(congrArg Prod.fst sT_381), G⟩ (Nat.le_of_ble_eq_true rfl) (sp_225 G ?_)
  show mx_wp (d + 33) 227 2 [some (.ref 381), none] [] (W_225 h) Q
  obtain ⟨h1, e2⟩ : ∃ z9, z9 = W_225 h := ⟨_, rfl⟩
  rw [← e2]
  have H := H h1 e2
  have K4 : mxK h h1 := e2 ▸ KW_225
  have G3 : mxG h1 := mxK_G K4 G
  refine wp_steps (i' := 3) (ls' := [some (.ref 381), none]) (st' := [.ref 381]) (h' := h1) (P := True) 1 rfl rfl trivial ?_
  refine wp_call (b := false) (y' := 223) (as := [.ref 381]) (rest := []) (P := ((mxT 381).1 = mxRc 223 ∧ mxG h1)) rfl (by with_unfolding_all rfl) ⟨(congrArg Prod.fst sT_381), G3⟩ (Nat.le_of_ble_eq_true rfl) (sp_223 G3 ?_)
  show mx_wp (d + 33) 227 4 [some (.ref 381), none] [] (W_223 h1) Q
  obtain ⟨h5, e6⟩ : ∃ z9, z9 = W_223 h1 := ⟨_, rfl⟩
  rw [← e6]
  have H := H h5 e6
  have K8 : mxK h1 h5 := e6 ▸ KW_223
  have G7 : mxG h5 := mxK_G K8 G3
  refine wp_steps (i' := 6) (ls' := [some (.ref 381), none]) (st' := [.int 0, .ref 381]) (h' := h5) (P := True) 2 rfl rfl trivial ?_
  obtain ⟨o9, o10, o11, o12, o13, o14, o15, H⟩ := H
  refine wp_call (b := false) (y' := 224) (as := [.ref 381, .int 0]) (rest := []) (P := ((mxT 381).1 = mxRc 224 ∧ mxG h5)) rfl (by with_unfolding_all rfl) ⟨(congrArg Prod.fst sT_381), G7⟩ (Nat.le_of_ble_eq_true rfl) (sp_224v G7 o9 o10 o11 o12 o13 o14 o15 ?_)
  intro x16 h17 p18
  show mx_wp (d + 33) 227 7 [some (.ref 381), none] [.int x16] h17 Q
  have H := H x16 h17 p18
  have G19 : mxG h17 := mxK_G p18.1.1 G7
  refine wp_steps (i' := 12) (ls' := [some (.ref 381), some (.int x16)]) (st' := [.int (-1), .int (mx_i h17 381 12), .ref 381]) (h' := h17) (P := ((mxT 381).1 = 11 ∧ mxG h17) ∧ True) 5 rfl rfl ⟨⟨(congrArg Prod.fst sT_381), G19⟩, trivial⟩ ?_
  have J : ∀ (v20 : Int32) (ev20 : v20 = ((if (mx_i h17 381 12) = (-1) then (if (mx_i h17 382 0) = 12 then 2 else 0) else 1) : Int32)), mx_wp (d + 33) 227 24 [some (.ref 381), some (.int x16)] [.int v20, .ref 381] h17 Q := by
    intro v20 ev20
    have H := H v20 ev20
    refine wp_steps (i' := 25) (ls' := [some (.ref 381), some (.int x16)]) (st' := []) (h' := mx_wi h17 381 0 v20) (P := ((mxT 381).1 = 11 ∧ mxG h17) ∧ True) 1 rfl rfl ⟨⟨(congrArg Prod.fst sT_381), G19⟩, trivial⟩ ?_
    obtain ⟨h21, e22⟩ : ∃ z9, z9 = mx_wi h17 381 0 v20 := ⟨_, rfl⟩
    rw [← e22]
    have H := H h21 e22
    have G23 : mxG h21 := e22 ▸ mxG_wi G19
    refine wp_steps (i' := 27) (ls' := [some (.ref 381), some (.int x16)]) (st' := [.int (mx_i h21 381 0)]) (h' := h21) (P := ((mxT 381).1 = 11 ∧ mxG h21) ∧ True) 2 rfl rfl ⟨⟨(congrArg Prod.fst sT_381), G23⟩, trivial⟩ ?_
    refine wp_br (P := True) (c := (mx_i h21 381 0) ≤ 0) (t := 32) (st' := []) rfl rfl trivial (fun c24 => ?_) (fun c24 => ?_)
    · have c24 := Int32.not_lt.mpr c24
      have H := H.2 c24
      refine wp_steps (i' := 40) (ls' := [some (.ref 381), some (.int x16)]) (st' := []) (h' := mx_wi h21 382 0 ((mx_i h21 382 0) + 1)) (P := ((mxT 381).1 = 11 ∧ mxG h21) ∧ (((mxT 382).1 = 50 ∧ mxG h21) ∧ vp_in 0 (mxT 382).2) ∧ (((mxT 382).1 = 50 ∧ mxG h21) ∧ vp_in 0 (mxT 382).2) ∧ True) 8 rfl rfl ⟨⟨(congrArg Prod.fst sT_381), G23⟩, (cA sT_382 G23 (vpl rfl)), (cA sT_382 G23 (vpl rfl)), trivial⟩ ?_
      obtain ⟨h25, e26⟩ : ∃ z9, z9 = mx_wi h21 382 0 ((mx_i h21 382 0) + 1) := ⟨_, rfl⟩
      rw [← e26]
      have H := H h25 e26
      have G27 : mxG h25 := e26 ▸ mxG_wi G23
      refine wp_steps (i' := 43) (ls' := [some (.ref 381), some (.int x16)]) (st' := []) (h' := mx_wi h25 381 6 0) (P := ((mxT 381).1 = 11 ∧ mxG h25) ∧ True) 3 rfl rfl ⟨⟨(congrArg Prod.fst sT_381), G27⟩, trivial⟩ ?_
      obtain ⟨h28, e29⟩ : ∃ z9, z9 = mx_wi h25 381 6 0 := ⟨_, rfl⟩
      rw [← e29]
      have H := H h28 e29
      have G30 : mxG h28 := e29 ▸ mxG_wi G27
      refine wp_steps (i' := 47) (ls' := [some (.ref 381), some (.int x16)]) (st' := [.int (mx_i h28 382 0)]) (h' := h28) (P := ((mxT 381).1 = 11 ∧ mxG h28) ∧ (((mxT 382).1 = 50 ∧ mxG h28) ∧ vp_in 0 (mxT 382).2) ∧ True) 4 rfl rfl ⟨⟨(congrArg Prod.fst sT_381), G30⟩, (cA sT_382 G30 (vpl rfl)), trivial⟩ ?_
      exact wp_end (o := .inl (some (.int (mx_i h28 382 0)))) (h' := h28) (P := True) rfl rfl trivial H
    · have c24 := Int32.not_le.mp c24
      have H := H.1 c24
      refine wp_steps (i' := 29) (ls' := [some (.ref 381), some (.int x16)]) (st' := [.ref 381]) (h' := h21) (P := True) 1 rfl rfl trivial ?_
      refine wp_call (b := false) (y' := 226) (as := [.ref 381]) (rest := []) (P := ((mxT 381).1 = mxRc 226 ∧ mxG h21)) rfl (by with_unfolding_all rfl) ⟨(congrArg Prod.fst sT_381), G23⟩ (Nat.le_of_ble_eq_true rfl) (sp_226 G23 ?_)
      show mx_wp (d + 33) 227 30 [some (.ref 381), some (.int x16)] [] (W_226 h21) Q
      obtain ⟨h31, e32⟩ : ∃ z9, z9 = W_226 h21 := ⟨_, rfl⟩
      rw [← e32]
      have H := H h31 e32
      have K34 : mxK h21 h31 := e32 ▸ KW_226
      have G33 : mxG h31 := mxK_G K34 G23
      refine wp_steps (i' := 31) (ls' := [some (.ref 381), some (.int x16)]) (st' := [.int 0]) (h' := h31) (P := True) 1 rfl rfl trivial ?_
      exact wp_end (o := .inl (some (.int 0))) (h' := h31) (P := True) rfl rfl trivial H
  refine wp_br (P := True) (c := (mx_i h17 381 12) = (-1)) (t := 15) (st' := [.ref 381]) rfl rfl trivial (fun c35 => ?_) (fun c35 => ?_)
  · skip
    refine wp_steps (i' := 20) (ls' := [some (.ref 381), some (.int x16)]) (st' := [.int 12, .int (mx_i h17 382 0), .ref 381]) (h' := h17) (P := ((mxT 381).1 = 11 ∧ mxG h17) ∧ (((mxT 382).1 = 50 ∧ mxG h17) ∧ vp_in 0 (mxT 382).2) ∧ True) 5 rfl rfl ⟨⟨(congrArg Prod.fst sT_381), G19⟩, (cA sT_382 G19 (vpl rfl)), trivial⟩ ?_
    refine wp_br (P := True) (c := ¬ (mx_i h17 382 0) = 12) (t := 23) (st' := [.ref 381]) rfl rfl trivial (fun c36 => ?_) (fun c36 => ?_)
    · skip
      refine wp_steps (i' := 24) (ls' := [some (.ref 381), some (.int x16)]) (st' := [.int 0, .ref 381]) (h' := h17) (P := True) 1 rfl rfl trivial ?_
      exact J _ (by rw [if_pos c35, if_neg c36])
    · have c36 := Decidable.of_not_not c36
      refine wp_steps (i' := 22) (ls' := [some (.ref 381), some (.int x16)]) (st' := [.int 2, .ref 381]) (h' := h17) (P := True) 1 rfl rfl trivial ?_
      refine wp_J (j := 24) (st' := [.int 2, .ref 381]) rfl rfl ?_
      exact J _ (by rw [if_pos c35, if_pos c36])
  · skip
    refine wp_steps (i' := 14) (ls' := [some (.ref 381), some (.int x16)]) (st' := [.int 1, .ref 381]) (h' := h17) (P := True) 1 rfl rfl trivial ?_
    refine wp_J (j := 24) (st' := [.int 1, .ref 381]) rfl rfl ?_
    exact J _ (by rw [if_neg c35])
