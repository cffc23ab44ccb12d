/-! 261: StoneBacksModel.hours(I)I -/
set_option maxRecDepth 8000 in
theorem tr_261_0 {d : Nat} {h : mxH} {Q : mxO → mxH → Prop} {i1 : Int32} (G : mxG h)  (H : (∀ (v1 : Int32), v1 = ((if (V_191 (mx_i h 382) i1 (1 : Int32) (100 : Int32)) = 0 then 1 else 0) : Int32) → (∀ h2, h2 = mx_wi h 381 0 v1 → ((0 < (mx_i h2 381 0) → Q (.inl (some (.int 0))) h2) ∧ (¬ 0 < (mx_i h2 381 0) → (cB (mx_i h2 381 6) 12 ∧ (∀ (h8 : mxH), rmM h2 h8 → (okP h8 i1 ∧ (∀ (x12 : Int32) (h13 : mxH), p241 i1 (1 : Int32) h8 x12 h13 → Q (.inl (some (.int x12))) h13))))))))) : mx_wp (d + 36) 261 0 (mx_fr 261 [.ref 381, .int i1]) [] h Q := by
  show mx_wp (d + 36) 261 0 [some (.ref 381), some (.int i1)] [] h Q
  refine wp_steps (i' := 4) (ls' := [some (.ref 381), some (.int i1)]) (st' := [.int 100, .int 1, .int i1, .ref 381]) (h' := h) (P := True) 4 rfl rfl trivial ?_
  refine wp_call (b := false) (y' := 191) (as := [.int i1, .int 1, .int 100]) (rest := [.ref 381]) (P := True) rfl (by with_unfolding_all rfl) trivial (Nat.le_of_ble_eq_true rfl) (sp_191 G ?_)
  show mx_wp (d + 36) 261 5 [some (.ref 381), some (.int i1)] [.int (V_191 (mx_i h 382) i1 (1 : Int32) (100 : Int32)), .ref 381] h Q
  have J : ∀ (v1 : Int32) (ev1 : v1 = ((if (V_191 (mx_i h 382) i1 (1 : Int32) (100 : Int32)) = 0 then 1 else 0) : Int32)), mx_wp (d + 36) 261 9 [some (.ref 381), some (.int i1)] [.int v1, .ref 381] h Q := by
    intro v1 ev1
    have H := H v1 ev1
    refine wp_steps (i' := 10) (ls' := [some (.ref 381), some (.int i1)]) (st' := []) (h' := mx_wi h 381 0 v1) (P := ((mxT 381).1 = 11 ∧ mxG h) ∧ True) 1 rfl rfl ⟨⟨(congrArg Prod.fst sT_381), G⟩, trivial⟩ ?_
    obtain ⟨h2, e3⟩ : ∃ z9, z9 = mx_wi h 381 0 v1 := ⟨_, rfl⟩
    rw [← e3]
    have H := H h2 e3
    have G4 : mxG h2 := e3 ▸ mxG_wi G
    refine wp_steps (i' := 12) (ls' := [some (.ref 381), some (.int i1)]) (st' := [.int (mx_i h2 381 0)]) (h' := h2) (P := ((mxT 381).1 = 11 ∧ mxG h2) ∧ True) 2 rfl rfl ⟨⟨(congrArg Prod.fst sT_381), G4⟩, trivial⟩ ?_
    refine wp_br (P := True) (c := (mx_i h2 381 0) ≤ 0) (t := 15) (st' := []) rfl rfl trivial (fun c5 => ?_) (fun c5 => ?_)
    · have c5 := Int32.not_lt.mpr c5
      have H := H.2 c5
      refine wp_steps (i' := 16) (ls' := [some (.ref 381), some (.int i1)]) (st' := [.ref 381]) (h' := h2) (P := True) 1 rfl rfl trivial ?_
      obtain ⟨o6, H⟩ := H
      refine wp_call (b := false) (y' := 250) (as := [.ref 381]) (rest := []) (P := ((mxT 381).1 = mxRc 250 ∧ mxG h2)) rfl (by with_unfolding_all rfl) ⟨(congrArg Prod.fst sT_381), G4⟩ (Nat.le_of_ble_eq_true rfl) (sp_250 G4 o6 ?_)
      intro h8 p9
      show mx_wp (d + 36) 261 17 [some (.ref 381), some (.int i1)] [] h8 Q
      have H := H h8 p9
      have G10 : mxG h8 := mxU_G p9.1 G4
      refine wp_steps (i' := 20) (ls' := [some (.ref 381), some (.int i1)]) (st' := [.int 1, .int i1, .ref 381]) (h' := h8) (P := True) 3 rfl rfl trivial ?_
      obtain ⟨o11, H⟩ := H
      refine wp_call (b := false) (y' := 241) (as := [.ref 381, .int i1, .int 1]) (rest := []) (P := ((mxT 381).1 = mxRc 241 ∧ mxG h8)) rfl (by with_unfolding_all rfl) ⟨(congrArg Prod.fst sT_381), G10⟩ (Nat.le_of_ble_eq_true rfl) (sp_241 G10 o11 ?_)
      intro x12 h13 p14
      show mx_wp (d + 36) 261 21 [some (.ref 381), some (.int i1)] [.int x12] h13 Q
      have H := H x12 h13 p14
      have G15 : mxG h13 := mxK_G p14.1.1 G10
      exact wp_end (o := .inl (some (.int x12))) (h' := h13) (P := True) rfl rfl trivial H
    · have c5 := Int32.not_le.mp c5
      have H := H.1 c5
      refine wp_steps (i' := 14) (ls' := [some (.ref 381), some (.int i1)]) (st' := [.int 0]) (h' := h2) (P := True) 1 rfl rfl trivial ?_
      exact wp_end (o := .inl (some (.int 0))) (h' := h2) (P := True) rfl rfl trivial H
  refine wp_br (P := True) (c := ¬ (V_191 (mx_i h 382) i1 (1 : Int32) (100 : Int32)) = 0) (t := 8) (st' := [.ref 381]) rfl rfl trivial (fun c16 => ?_) (fun c16 => ?_)
  · skip
    refine wp_steps (i' := 9) (ls' := [some (.ref 381), some (.int i1)]) (st' := [.int 0, .ref 381]) (h' := h) (P := True) 1 rfl rfl trivial ?_
    exact J _ (by rw [if_neg c16])
  · have c16 := Decidable.of_not_not c16
    refine wp_steps (i' := 7) (ls' := [some (.ref 381), some (.int i1)]) (st' := [.int 1, .ref 381]) (h' := h) (P := True) 1 rfl rfl trivial ?_
    refine wp_J (j := 9) (st' := [.int 1, .ref 381]) rfl rfl ?_
    exact J _ (by rw [if_pos c16])
/-! 274: StoneBacksModel.first(I)I -/
def H_274_20 (d : Nat) (h : mxH) (i1 : Int32) (i2 : Int32) (i3 : Int32) (Q : mxO → mxH → Prop) : Prop := ∀ (w4 : Option Value), mx_wp d 274 20 [some (.ref 381), some (.int i1), some (.int i2), some (.int i3), w4] [] h Q
set_option maxRecDepth 8000 in
theorem tr_274_0 {d : Nat} {h : mxH} {Q : mxO → mxH → Prop} {i1 : Int32} (G : mxG h)  (H : (((V_191 (mx_i h 382) i1 (0 : Int32) ((mx_i h 382 3) - 1)) = 0 ∨ (V_191 (mx_i h 382) i1 (0 : Int32) ((mx_i h 382 3) - 1)) = 1) ∧ (∀ (v2 : Int32), v2 = ((if (V_200 (mx_i h 382) i1) = 0 then 1 else 0) : Int32) → (∀ h3, h3 = mx_wi h 381 0 v2 → ((0 < (mx_i h3 381 0) → Q (.inl (some (.int 0))) h3) ∧ (¬ 0 < (mx_i h3 381 0) → (∀ h7, h7 = W_225 h3 → H_274_20 (d + 36) h7 i1 (-1) 0 Q))))))) : mx_wp (d + 36) 274 0 (mx_fr 274 [.ref 381, .int i1]) [] h Q := by
  show mx_wp (d + 36) 274 0 [some (.ref 381), some (.int i1), none, none, none] [] h Q
  refine wp_steps (i' := 3) (ls' := [some (.ref 381), some (.int i1), none, none, none]) (st' := [.int i1, .ref 381, .ref 381]) (h' := h) (P := True) 3 rfl rfl trivial ?_
  obtain ⟨o1, H⟩ := H
  refine wp_call (b := false) (y' := 200) (as := [.ref 381, .int i1]) (rest := [.ref 381]) (P := ((mxT 381).1 = mxRc 200 ∧ mxG h)) rfl (by with_unfolding_all rfl) ⟨(congrArg Prod.fst sT_381), G⟩ (Nat.le_of_ble_eq_true rfl) (sp_200 G o1 ?_)
  show mx_wp (d + 36) 274 4 [some (.ref 381), some (.int i1), none, none, none] [.int (V_200 (mx_i h 382) i1), .ref 381] h Q
  have J : ∀ (v2 : Int32) (ev2 : v2 = ((if (V_200 (mx_i h 382) i1) = 0 then 1 else 0) : Int32)), mx_wp (d + 36) 274 8 [some (.ref 381), some (.int i1), none, none, none] [.int v2, .ref 381] h Q := by
    intro v2 ev2
    have H := H v2 ev2
    refine wp_steps (i' := 9) (ls' := [some (.ref 381), some (.int i1), none, none, none]) (st' := []) (h' := mx_wi h 381 0 v2) (P := ((mxT 381).1 = 11 ∧ mxG h) ∧ True) 1 rfl rfl ⟨⟨(congrArg Prod.fst sT_381), G⟩, trivial⟩ ?_
    obtain ⟨h3, e4⟩ : ∃ z9, z9 = mx_wi h 381 0 v2 := ⟨_, rfl⟩
    rw [← e4]
    have H := H h3 e4
    have G5 : mxG h3 := e4 ▸ mxG_wi G
    refine wp_steps (i' := 11) (ls' := [some (.ref 381), some (.int i1), none, none, none]) (st' := [.int (mx_i h3 381 0)]) (h' := h3) (P := ((mxT 381).1 = 11 ∧ mxG h3) ∧ True) 2 rfl rfl ⟨⟨(congrArg Prod.fst sT_381), G5⟩, trivial⟩ ?_
    refine wp_br (P := True) (c := (mx_i h3 381 0) ≤ 0) (t := 14) (st' := []) rfl rfl trivial (fun c6 => ?_) (fun c6 => ?_)
    · have c6 := Int32.not_lt.mpr c6
      have H := H.2 c6
      refine wp_steps (i' := 15) (ls' := [some (.ref 381), some (.int i1), none, none, none]) (st' := [.ref 381]) (h' := h3) (P := True) 1 rfl rfl trivial ?_
      refine wp_call (b := false) (y' := 225) (as := [.ref 381]) (rest := []) (P := ((mxT 381).1 = mxRc 225 ∧ mxG h3)) rfl (by with_unfolding_all rfl) ⟨(congrArg Prod.fst sT_381), G5⟩ (Nat.le_of_ble_eq_true rfl) (sp_225 G5 ?_)
      show mx_wp (d + 36) 274 16 [some (.ref 381), some (.int i1), none, none, none] [] (W_225 h3) Q
      obtain ⟨h7, e8⟩ : ∃ z9, z9 = W_225 h3 := ⟨_, rfl⟩
      rw [← e8]
      have H := H h7 e8
      have K10 : mxK h3 h7 := e8 ▸ KW_225
      have G9 : mxG h7 := mxK_G K10 G5
      refine wp_steps (i' := 20) (ls' := [some (.ref 381), some (.int i1), some (.int (-1)), some (.int 0), none]) (st' := []) (h' := h7) (P := True) 4 rfl rfl trivial ?_
      exact H _
    · have c6 := Int32.not_le.mp c6
      have H := H.1 c6
      refine wp_steps (i' := 13) (ls' := [some (.ref 381), some (.int i1), none, none, none]) (st' := [.int 0]) (h' := h3) (P := True) 1 rfl rfl trivial ?_
      exact wp_end (o := .inl (some (.int 0))) (h' := h3) (P := True) rfl rfl trivial H
  refine wp_br (P := True) (c := ¬ (V_200 (mx_i h 382) i1) = 0) (t := 7) (st' := [.ref 381]) rfl rfl trivial (fun c11 => ?_) (fun c11 => ?_)
  · skip
    refine wp_steps (i' := 8) (ls' := [some (.ref 381), some (.int i1), none, none, none]) (st' := [.int 0, .ref 381]) (h' := h) (P := True) 1 rfl rfl trivial ?_
    exact J _ (by rw [if_neg c11])
  · have c11 := Decidable.of_not_not c11
    refine wp_steps (i' := 6) (ls' := [some (.ref 381), some (.int i1), none, none, none]) (st' := [.int 1, .ref 381]) (h' := h) (P := True) 1 rfl rfl trivial ?_
    refine wp_J (j := 8) (st' := [.int 1, .ref 381]) rfl rfl ?_
    exact J _ (by rw [if_pos c11])
set_option maxRecDepth 8000 in
theorem tr_274_20 {d : Nat} {h : mxH} {Q : mxO → mxH → Prop}  {i1 : Int32} {i2 : Int32} {i3 : Int32} (G : mxG h)  (H : ((200 < i3 → (∀ h2, h2 = W_226 h → Q (.inl (some (.int i2))) h2)) ∧ (¬ 200 < i3 → ((i2 = (-1) → (vp_in ((33 + (6 * i1)) + (0 : Int32)) 769 ∧ (cB (mx_i h 382 4) 10 ∧ isI (0 : Int32) 6 ∧ (∀ (v14 : Int32), v14 = ((if (V_196 (mx_i h 382) i1 (0 : Int32)) < (V_204 (mx_i h 382) (V_243 (mx_i h 382) i1 (0 : Int32))) then i2 else i3) : Int32) → (okP h (1 : Int32) ∧ (∀ (x16 : Int32) (h17 : mxH), p241 (1 : Int32) (0 : Int32) h x16 h17 → H_274_20 (d + 36) h17 i1 v14 (i3 + 1) Q)))))) ∧ (¬ i2 = (-1) → (∀ h7, h7 = W_226 h → Q (.inl (some (.int i2))) h7)))))) : H_274_20 (d + 36) h i1 i2 i3 Q := by
  intro w4
  show mx_wp (d + 36) 274 20 [some (.ref 381), some (.int i1), some (.int i2), some (.int i3), w4] [] h Q
  refine wp_steps (i' := 22) (ls' := [some (.ref 381), some (.int i1), some (.int i2), some (.int i3), w4]) (st' := [.int 200, .int i3]) (h' := h) (P := True) 2 rfl rfl trivial ?_
  refine wp_br (P := True) (c := 200 < i3) (t := 46) (st' := []) rfl rfl trivial (fun c1 => ?_) (fun c1 => ?_)
  · skip
    have H := H.1 c1
    refine wp_steps (i' := 47) (ls' := [some (.ref 381), some (.int i1), some (.int i2), some (.int i3), w4]) (st' := [.ref 381]) (h' := h) (P := True) 1 rfl rfl trivial ?_
    refine wp_call (b := false) (y' := 226) (as := [.ref 381]) (rest := []) (P := ((mxT 381).1 = mxRc 226 ∧ mxG h)) rfl (by with_unfolding_all rfl) ⟨(congrArg Prod.fst sT_381), G⟩ (Nat.le_of_ble_eq_true rfl) (sp_226 G ?_)
    show mx_wp (d + 36) 274 48 [some (.ref 381), some (.int i1), some (.int i2), some (.int i3), w4] [] (W_226 h) Q
    obtain ⟨h2, e3⟩ : ∃ z9, z9 = W_226 h := ⟨_, rfl⟩
    rw [← e3]
    have H := H h2 e3
    have K5 : mxK h h2 := e3 ▸ KW_226
    have G4 : mxG h2 := mxK_G K5 G
    refine wp_steps (i' := 49) (ls' := [some (.ref 381), some (.int i1), some (.int i2), some (.int i3), w4]) (st' := [.int i2]) (h' := h2) (P := True) 1 rfl rfl trivial ?_
    exact wp_end (o := .inl (some (.int i2))) (h' := h2) (P := True) rfl rfl trivial H
  · skip
    have H := H.2 c1
    refine wp_steps (i' := 25) (ls' := [some (.ref 381), some (.int i1), some (.int i2), some (.int i3), w4]) (st' := [.int (-1), .int i2]) (h' := h) (P := True) 2 rfl rfl trivial ?_
    refine wp_br (P := True) (c := ¬ i2 = (-1)) (t := 46) (st' := []) rfl rfl trivial (fun c6 => ?_) (fun c6 => ?_)
    · skip
      have H := H.2 c6
      refine wp_steps (i' := 47) (ls' := [some (.ref 381), some (.int i1), some (.int i2), some (.int i3), w4]) (st' := [.ref 381]) (h' := h) (P := True) 1 rfl rfl trivial ?_
      refine wp_call (b := false) (y' := 226) (as := [.ref 381]) (rest := []) (P := ((mxT 381).1 = mxRc 226 ∧ mxG h)) rfl (by with_unfolding_all rfl) ⟨(congrArg Prod.fst sT_381), G⟩ (Nat.le_of_ble_eq_true rfl) (sp_226 G ?_)
      show mx_wp (d + 36) 274 48 [some (.ref 381), some (.int i1), some (.int i2), some (.int i3), w4] [] (W_226 h) Q
      obtain ⟨h7, e8⟩ : ∃ z9, z9 = W_226 h := ⟨_, rfl⟩
      rw [← e8]
      have H := H h7 e8
      have K10 : mxK h h7 := e8 ▸ KW_226
      have G9 : mxG h7 := mxK_G K10 G
      refine wp_steps (i' := 49) (ls' := [some (.ref 381), some (.int i1), some (.int i2), some (.int i3), w4]) (st' := [.int i2]) (h' := h7) (P := True) 1 rfl rfl trivial ?_
      exact wp_end (o := .inl (some (.int i2))) (h' := h7) (P := True) rfl rfl trivial H
    · have c6 := Decidable.of_not_not c6
      have H := H.1 c6
      refine wp_steps (i' := 29) (ls' := [some (.ref 381), some (.int i1), some (.int i2), some (.int i3), w4]) (st' := [.int 0, .int i1, .ref 381]) (h' := h) (P := True) 3 rfl rfl trivial ?_
      obtain ⟨o11, H⟩ := H
      refine wp_call (b := false) (y' := 196) (as := [.ref 381, .int i1, .int 0]) (rest := []) (P := ((mxT 381).1 = mxRc 196 ∧ mxG h)) rfl (by with_unfolding_all rfl) ⟨(congrArg Prod.fst sT_381), G⟩ (Nat.le_of_ble_eq_true rfl) (sp_196 G o11 ?_)
      show mx_wp (d + 36) 274 30 [some (.ref 381), some (.int i1), some (.int i2), some (.int i3), w4] [.int (V_196 (mx_i h 382) i1 (0 : Int32))] h Q
      refine wp_steps (i' := 34) (ls' := [some (.ref 381), some (.int i1), some (.int i2), some (.int i3), w4]) (st' := [.int 0, .int i1, .ref 381, .ref 381, .int (V_196 (mx_i h 382) i1 (0 : Int32))]) (h' := h) (P := True) 4 rfl rfl trivial ?_
      obtain ⟨o12, o13, H⟩ := H
      refine wp_call (b := false) (y' := 243) (as := [.ref 381, .int i1, .int 0]) (rest := [.ref 381, .int (V_196 (mx_i h 382) i1 (0 : Int32))]) (P := ((mxT 381).1 = mxRc 243 ∧ mxG h)) rfl (by with_unfolding_all rfl) ⟨(congrArg Prod.fst sT_381), G⟩ (Nat.le_of_ble_eq_true rfl) (sp_243 G o12 o13 ?_)
      show mx_wp (d + 36) 274 35 [some (.ref 381), some (.int i1), some (.int i2), some (.int i3), w4] [.int (V_243 (mx_i h 382) i1 (0 : Int32)), .ref 381, .int (V_196 (mx_i h 382) i1 (0 : Int32))] h Q
      refine wp_call (b := false) (y' := 204) (as := [.ref 381, .int (V_243 (mx_i h 382) i1 (0 : Int32))]) (rest := [.int (V_196 (mx_i h 382) i1 (0 : Int32))]) (P := ((mxT 381).1 = mxRc 204 ∧ mxG h)) rfl (by with_unfolding_all rfl) ⟨(congrArg Prod.fst sT_381), G⟩ (Nat.le_of_ble_eq_true rfl) (sp_204 G o12 ?_)
      show mx_wp (d + 36) 274 36 [some (.ref 381), some (.int i1), some (.int i2), some (.int i3), w4] [.int (V_204 (mx_i h 382) (V_243 (mx_i h 382) i1 (0 : Int32))), .int (V_196 (mx_i h 382) i1 (0 : Int32))] h Q
      have J : ∀ (v14 : Int32) (ev14 : v14 = ((if (V_196 (mx_i h 382) i1 (0 : Int32)) < (V_204 (mx_i h 382) (V_243 (mx_i h 382) i1 (0 : Int32))) then i2 else i3) : Int32)), mx_wp (d + 36) 274 39 [some (.ref 381), some (.int i1), some (.int v14), some (.int i3), w4] [] h Q := by
        intro v14 ev14
        have H := H v14 ev14
        refine wp_steps (i' := 42) (ls' := [some (.ref 381), some (.int i1), some (.int v14), some (.int i3), w4]) (st' := [.int 0, .int 1, .ref 381]) (h' := h) (P := True) 3 rfl rfl trivial ?_
        obtain ⟨o15, H⟩ := H
        refine wp_call (b := false) (y' := 241) (as := [.ref 381, .int 1, .int 0]) (rest := []) (P := ((mxT 381).1 = mxRc 241 ∧ mxG h)) rfl (by with_unfolding_all rfl) ⟨(congrArg Prod.fst sT_381), G⟩ (Nat.le_of_ble_eq_true rfl) (sp_241 G o15 ?_)
        intro x16 h17 p18
        show mx_wp (d + 36) 274 43 [some (.ref 381), some (.int i1), some (.int v14), some (.int i3), w4] [.int x16] h17 Q
        have H := H x16 h17 p18
        have G19 : mxG h17 := mxK_G p18.1.1 G
        refine wp_steps (i' := 45) (ls' := [some (.ref 381), some (.int i1), some (.int v14), some (.int (i3 + 1)), some (.int x16)]) (st' := []) (h' := h17) (P := True) 2 rfl rfl trivial ?_
        refine wp_J (j := 20) (st' := []) rfl rfl ?_
        exact H _
      refine wp_br (P := True) (c := (V_196 (mx_i h 382) i1 (0 : Int32)) < (V_204 (mx_i h 382) (V_243 (mx_i h 382) i1 (0 : Int32)))) (t := 39) (st' := []) rfl rfl trivial (fun c20 => ?_) (fun c20 => ?_)
      · skip
        exact J _ (by rw [if_pos c20])
      · skip
        refine wp_steps (i' := 39) (ls' := [some (.ref 381), some (.int i1), some (.int i3), some (.int i3), w4]) (st' := []) (h' := h) (P := True) 2 rfl rfl trivial ?_
        exact J _ (by rw [if_neg c20])
/-! 285: StoneBacksModel.last(Z)I -/
def H_285_9 (d : Nat) (h : mxH) (i1 : Int32) (i2 : Int32) (i3 : Int32) (Q : mxO → mxH → Prop) : Prop := ∀ (w4 : Option Value), mx_wp d 285 9 [some (.ref 381), some (.int i1), some (.int i2), some (.int i3), w4] [] h Q
def H_285_17 (d : Nat) (h : mxH) (i1 : Int32) (i2 : Int32) (i3 : Int32) (i4 : Int32) (Q : mxO → mxH → Prop) : Prop := mx_wp d 285 17 [some (.ref 381), some (.int i1), some (.int i2), some (.int i3), some (.int i4)] [] h Q
set_option maxRecDepth 8000 in
theorem tr_285_0 {d : Nat} {h : mxH} {Q : mxO → mxH → Prop} {i1 : Int32} (G : mxG h)  (H : (∀ h1, h1 = mx_wi h 381 0 0 → (∀ h4, h4 = W_225 h1 → H_285_9 (d + 36) h4 i1 (-1) 0 Q))) : mx_wp (d + 36) 285 0 (mx_fr 285 [.ref 381, .int i1]) [] h Q := by
  show mx_wp (d + 36) 285 0 [some (.ref 381), some (.int i1), none, none, none] [] h Q
  refine wp_steps (i' := 3) (ls' := [some (.ref 381), some (.int i1), none, none, none]) (st' := []) (h' := mx_wi h 381 0 0) (P := ((mxT 381).1 = 11 ∧ mxG h) ∧ True) 3 rfl rfl ⟨⟨(congrArg Prod.fst sT_381), G⟩, trivial⟩ ?_
  obtain ⟨h1, e2⟩ : ∃ z9, z9 = mx_wi h 381 0 0 := ⟨_, rfl⟩
  rw [← e2]
  have H := H h1 e2
  have G3 : mxG h1 := e2 ▸ mxG_wi G
  refine wp_steps (i' := 4) (ls' := [some (.ref 381), some (.int i1), none, none, none]) (st' := [.ref 381]) (h' := h1) (P := True) 1 rfl rfl trivial ?_
  refine wp_call (b := false) (y' := 225) (as := [.ref 381]) (rest := []) (P := ((mxT 381).1 = mxRc 225 ∧ mxG h1)) rfl (by with_unfolding_all rfl) ⟨(congrArg Prod.fst sT_381), G3⟩ (Nat.le_of_ble_eq_true rfl) (sp_225 G3 ?_)
  show mx_wp (d + 36) 285 5 [some (.ref 381), some (.int i1), none, none, none] [] (W_225 h1) Q
  obtain ⟨h4, e5⟩ : ∃ z9, z9 = W_225 h1 := ⟨_, rfl⟩
  rw [← e5]
  have H := H h4 e5
  have K7 : mxK h1 h4 := e5 ▸ KW_225
  have G6 : mxG h4 := mxK_G K7 G3
  refine wp_steps (i' := 9) (ls' := [some (.ref 381), some (.int i1), some (.int (-1)), some (.int 0), none]) (st' := []) (h' := h4) (P := True) 4 rfl rfl trivial ?_
  exact H _
set_option maxRecDepth 8000 in
theorem tr_285_9 {d : Nat} {h : mxH} {Q : mxO → mxH → Prop}  {i1 : Int32} {i2 : Int32} {i3 : Int32} (G : mxG h)  (H : ((200 < i3 → (∀ h2, h2 = W_226 h → Q (.inl (some (.int i2))) h2)) ∧ (¬ 200 < i3 → ((i2 = (-1) → H_285_17 (d + 36) h i1 i2 i3 0 Q) ∧ (¬ i2 = (-1) → (∀ h7, h7 = W_226 h → Q (.inl (some (.int i2))) h7)))))) : H_285_9 (d + 36) h i1 i2 i3 Q := by
  intro w4
  show mx_wp (d + 36) 285 9 [some (.ref 381), some (.int i1), some (.int i2), some (.int i3), w4] [] h Q
  refine wp_steps (i' := 11) (ls' := [some (.ref 381), some (.int i1), some (.int i2), some (.int i3), w4]) (st' := [.int 200, .int i3]) (h' := h) (P := True) 2 rfl rfl trivial ?_
  refine wp_br (P := True) (c := 200 < i3) (t := 45) (st' := []) rfl rfl trivial (fun c1 => ?_) (fun c1 => ?_)
  · skip
    have H := H.1 c1
    refine wp_steps (i' := 46) (ls' := [some (.ref 381), some (.int i1), some (.int i2), some (.int i3), w4]) (st' := [.ref 381]) (h' := h) (P := True) 1 rfl rfl trivial ?_
    refine wp_call (b := false) (y' := 226) (as := [.ref 381]) (rest := []) (P := ((mxT 381).1 = mxRc 226 ∧ mxG h)) rfl (by with_unfolding_all rfl) ⟨(congrArg Prod.fst sT_381), G⟩ (Nat.le_of_ble_eq_true rfl) (sp_226 G ?_)
    show mx_wp (d + 36) 285 47 [some (.ref 381), some (.int i1), some (.int i2), some (.int i3), w4] [] (W_226 h) Q
    obtain ⟨h2, e3⟩ : ∃ z9, z9 = W_226 h := ⟨_, rfl⟩
    rw [← e3]
    have H := H h2 e3
    have K5 : mxK h h2 := e3 ▸ KW_226
    have G4 : mxG h2 := mxK_G K5 G
    refine wp_steps (i' := 48) (ls' := [some (.ref 381), some (.int i1), some (.int i2), some (.int i3), w4]) (st' := [.int i2]) (h' := h2) (P := True) 1 rfl rfl trivial ?_
    exact wp_end (o := .inl (some (.int i2))) (h' := h2) (P := True) rfl rfl trivial H
  · skip
    have H := H.2 c1
    refine wp_steps (i' := 14) (ls' := [some (.ref 381), some (.int i1), some (.int i2), some (.int i3), w4]) (st' := [.int (-1), .int i2]) (h' := h) (P := True) 2 rfl rfl trivial ?_
    refine wp_br (P := True) (c := ¬ i2 = (-1)) (t := 45) (st' := []) rfl rfl trivial (fun c6 => ?_) (fun c6 => ?_)
    · skip
      have H := H.2 c6
      refine wp_steps (i' := 46) (ls' := [some (.ref 381), some (.int i1), some (.int i2), some (.int i3), w4]) (st' := [.ref 381]) (h' := h) (P := True) 1 rfl rfl trivial ?_
      refine wp_call (b := false) (y' := 226) (as := [.ref 381]) (rest := []) (P := ((mxT 381).1 = mxRc 226 ∧ mxG h)) rfl (by with_unfolding_all rfl) ⟨(congrArg Prod.fst sT_381), G⟩ (Nat.le_of_ble_eq_true rfl) (sp_226 G ?_)
      show mx_wp (d + 36) 285 47 [some (.ref 381), some (.int i1), some (.int i2), some (.int i3), w4] [] (W_226 h) Q
      obtain ⟨h7, e8⟩ : ∃ z9, z9 = W_226 h := ⟨_, rfl⟩
      rw [← e8]
      have H := H h7 e8
      have K10 : mxK h h7 := e8 ▸ KW_226
      have G9 : mxG h7 := mxK_G K10 G
      refine wp_steps (i' := 48) (ls' := [some (.ref 381), some (.int i1), some (.int i2), some (.int i3), w4]) (st' := [.int i2]) (h' := h7) (P := True) 1 rfl rfl trivial ?_
      exact wp_end (o := .inl (some (.int i2))) (h' := h7) (P := True) rfl rfl trivial H
    · have c6 := Decidable.of_not_not c6
      have H := H.1 c6
      refine wp_steps (i' := 17) (ls' := [some (.ref 381), some (.int i1), some (.int i2), some (.int i3), some (.int 0)]) (st' := []) (h' := h) (P := True) 2 rfl rfl trivial ?_
      exact H 
set_option maxRecDepth 8000 in
theorem tr_285_17 {d : Nat} {h : mxH} {Q : mxO → mxH → Prop}  {i1 : Int32} {i2 : Int32} {i3 : Int32} {i4 : Int32} (G : mxG h)  (H : ((i4 < (mx_i h 382 3) → ((i2 = (-1) → (cB (mx_i h 382 4) 10 ∧ vp_in ((33 + (6 * i4)) + (1 : Int32)) 769 ∧ (((V_196 (mx_i h 382) i4 (1 : Int32)) < (V_205 (mx_i h 382) i4) → True) ∧ (¬ (V_196 (mx_i h 382) i4 (1 : Int32)) < (V_205 (mx_i h 382) i4) → (vp_in ((33 + (6 * i4)) + (4 : Int32)) 769 ∧ (((V_196 (mx_i h 382) i4 (4 : Int32)) = 99 → True) ∧ (¬ (V_196 (mx_i h 382) i4 (4 : Int32)) = 99 → (vp_in ((33 + (6 * i4)) + (5 : Int32)) 769 ∧ True)))))) ∧ (∀ (v16 : Int32), v16 = ((if (V_206 (mx_i h 382) i4) = 0 then i2 else (if i1 = 0 then i3 else i4)) : Int32) → H_285_17 (d + 36) h i1 v16 i3 (i4 + 1) Q))) ∧ (¬ i2 = (-1) → (okP h (1 : Int32) ∧ (∀ (x9 : Int32) (h10 : mxH), p241 (1 : Int32) (0 : Int32) h x9 h10 → H_285_9 (d + 36) h10 i1 i2 (i3 + 1) Q))))) ∧ (¬ i4 < (mx_i h 382 3) → (okP h (1 : Int32) ∧ (∀ (x3 : Int32) (h4 : mxH), p241 (1 : Int32) (0 : Int32) h x3 h4 → H_285_9 (d + 36) h4 i1 i2 (i3 + 1) Q))))) : H_285_17 (d + 36) h i1 i2 i3 i4 Q := by
  show mx_wp (d + 36) 285 17 [some (.ref 381), some (.int i1), some (.int i2), some (.int i3), some (.int i4)] [] h Q
  refine wp_steps (i' := 22) (ls' := [some (.ref 381), some (.int i1), some (.int i2), some (.int i3), some (.int i4)]) (st' := [.int (mx_i h 382 3), .int i4]) (h' := h) (P := ((mxT 381).1 = 11 ∧ mxG h) ∧ (((mxT 382).1 = 50 ∧ mxG h) ∧ vp_in 3 (mxT 382).2) ∧ True) 5 rfl rfl ⟨⟨(congrArg Prod.fst sT_381), G⟩, (cA sT_382 G (vpl rfl)), trivial⟩ ?_
  refine wp_br (P := True) (c := (mx_i h 382 3) ≤ i4) (t := 38) (st' := []) rfl rfl trivial (fun c1 => ?_) (fun c1 => ?_)
  · have c1 := Int32.not_lt.mpr c1
    have H := H.2 c1
    refine wp_steps (i' := 41) (ls' := [some (.ref 381), some (.int i1), some (.int i2), some (.int i3), some (.int i4)]) (st' := [.int 0, .int 1, .ref 381]) (h' := h) (P := True) 3 rfl rfl trivial ?_
    obtain ⟨o2, H⟩ := H
    refine wp_call (b := false) (y' := 241) (as := [.ref 381, .int 1, .int 0]) (rest := []) (P := ((mxT 381).1 = mxRc 241 ∧ mxG h)) rfl (by with_unfolding_all rfl) ⟨(congrArg Prod.fst sT_381), G⟩ (Nat.le_of_ble_eq_true rfl) (sp_241 G o2 ?_)
    intro x3 h4 p5
    show mx_wp (d + 36) 285 42 [some (.ref 381), some (.int i1), some (.int i2), some (.int i3), some (.int i4)] [.int x3] h4 Q
    have H := H x3 h4 p5
    have G6 : mxG h4 := mxK_G p5.1.1 G
    refine wp_steps (i' := 44) (ls' := [some (.ref 381), some (.int i1), some (.int i2), some (.int (i3 + 1)), some (.int x3)]) (st' := []) (h' := h4) (P := True) 2 rfl rfl trivial ?_
    refine wp_J (j := 9) (st' := []) rfl rfl ?_
    exact H _
  · have c1 := Int32.not_le.mp c1
    have H := H.1 c1
    refine wp_steps (i' := 25) (ls' := [some (.ref 381), some (.int i1), some (.int i2), some (.int i3), some (.int i4)]) (st' := [.int (-1), .int i2]) (h' := h) (P := True) 2 rfl rfl trivial ?_
    refine wp_br (P := True) (c := ¬ i2 = (-1)) (t := 38) (st' := []) rfl rfl trivial (fun c7 => ?_) (fun c7 => ?_)
    · skip
      have H := H.2 c7
      refine wp_steps (i' := 41) (ls' := [some (.ref 381), some (.int i1), some (.int i2), some (.int i3), some (.int i4)]) (st' := [.int 0, .int 1, .ref 381]) (h' := h) (P := True) 3 rfl rfl trivial ?_
      obtain ⟨o8, H⟩ := H
      refine wp_call (b := false) (y' := 241) (as := [.ref 381, .int 1, .int 0]) (rest := []) (P := ((mxT 381).1 = mxRc 241 ∧ mxG h)) rfl (by with_unfolding_all rfl) ⟨(congrArg Prod.fst sT_381), G⟩ (Nat.le_of_ble_eq_true rfl) (sp_241 G o8 ?_)
      intro x9 h10 p11
      show mx_wp (d + 36) 285 42 [some (.ref 381), some (.int i1), some (.int i2), some (.int i3), some (.int i4)] [.int x9] h10 Q
      have H := H x9 h10 p11
      have G12 : mxG h10 := mxK_G p11.1.1 G
      refine wp_steps (i' := 44) (ls' := [some (.ref 381), some (.int i1), some (.int i2), some (.int (i3 + 1)), some (.int x9)]) (st' := []) (h' := h10) (P := True) 2 rfl rfl trivial ?_
      refine wp_J (j := 9) (st' := []) rfl rfl ?_
      exact H _
    · have c7 := Decidable.of_not_not c7
      have H := H.1 c7
      refine wp_steps (i' := 28) (ls' := [some (.ref 381), some (.int i1), some (.int i2), some (.int i3), some (.int i4)]) (st' := [.int i4, .ref 381]) (h' := h) (P := True) 2 rfl rfl trivial ?_
      obtain ⟨o13, o14, o15, H⟩ := H
      refine wp_call (b := false) (y' := 206) (as := [.ref 381, .int i4]) (rest := []) (P := ((mxT 381).1 = mxRc 206 ∧ mxG h)) rfl (by with_unfolding_all rfl) ⟨(congrArg Prod.fst sT_381), G⟩ (Nat.le_of_ble_eq_true rfl) (sp_206 G o13 o14 o15 ?_)
      show mx_wp (d + 36) 285 29 [some (.ref 381), some (.int i1), some (.int i2), some (.int i3), some (.int i4)] [.int (V_206 (mx_i h 382) i4)] h Q
      have J : ∀ (v16 : Int32) (ev16 : v16 = ((if (V_206 (mx_i h 382) i4) = 0 then i2 else (if i1 = 0 then i3 else i4)) : Int32)), mx_wp (d + 36) 285 36 [some (.ref 381), some (.int i1), some (.int v16), some (.int i3), some (.int i4)] [] h Q := by
        intro v16 ev16
        have H := H v16 ev16
        refine wp_steps (i' := 37) (ls' := [some (.ref 381), some (.int i1), some (.int v16), some (.int i3), some (.int (i4 + 1))]) (st' := []) (h' := h) (P := True) 1 rfl rfl trivial ?_
        refine wp_J (j := 17) (st' := []) rfl rfl ?_
        exact H 
      refine wp_br (P := True) (c := (V_206 (mx_i h 382) i4) = 0) (t := 36) (st' := []) rfl rfl trivial (fun c17 => ?_) (fun c17 => ?_)
      · skip
        exact J _ (by rw [if_pos c17])
      · skip
        refine wp_steps (i' := 31) (ls' := [some (.ref 381), some (.int i1), some (.int i2), some (.int i3), some (.int i4)]) (st' := [.int i1]) (h' := h) (P := True) 1 rfl rfl trivial ?_
        refine wp_br (P := True) (c := i1 = 0) (t := 34) (st' := []) rfl rfl trivial (fun c18 => ?_) (fun c18 => ?_)
        · skip
          refine wp_steps (i' := 36) (ls' := [some (.ref 381), some (.int i1), some (.int i3), some (.int i3), some (.int i4)]) (st' := []) (h' := h) (P := True) 2 rfl rfl trivial ?_
          exact J _ (by rw [if_neg c17, if_pos c18])
        · skip
          refine wp_steps (i' := 33) (ls' := [some (.ref 381), some (.int i1), some (.int i2), some (.int i3), some (.int i4)]) (st' := [.int i4]) (h' := h) (P := True) 1 rfl rfl trivial ?_
          refine wp_J (j := 35) (st' := [.int i4]) rfl rfl ?_
          refine wp_steps (i' := 36) (ls' := [some (.ref 381), some (.int i1), some (.int i4), some (.int i3), some (.int i4)]) (st' := []) (h' := h) (P := True) 1 rfl rfl trivial ?_
          exact J _ (by rw [if_neg c17, if_neg c18])
/-! 290: StoneBacksModel.gravel(I)I -/
set_option maxRecDepth 8000 in
theorem tr_290_0 {d : Nat} {h : mxH} {Q : mxO → mxH → Prop} {i1 : Int32} (G : mxG h)  (H : (∀ (v1 : Int32), v1 = ((if (V_191 (mx_i h 382) i1 (0 : Int32) (200 : Int32)) = 0 then 1 else 0) : Int32) → (∀ h2, h2 = mx_wi h 381 0 v1 → ((0 < (mx_i h2 381 0) → Q (.inl (some (.int 0))) h2) ∧ (¬ 0 < (mx_i h2 381 0) → (∀ h6, h6 = W_225 h2 → (cB (mx_i h6 382 4) 10 ∧ (okP h6 i1 ∧ (∀ (x12 : Int32) (h13 : mxH), p241 i1 (0 : Int32) h6 x12 h13 → (cB (mx_i h13 382 4) 10 ∧ (∀ h17, h17 = W_226 h13 → Q (.inl (some (.int ((V_289 (mx_i h13 382)) - (V_289 (mx_i h6 382)))))) h17))))))))))) : mx_wp (d + 36) 290 0 (mx_fr 290 [.ref 381, .int i1]) [] h Q := by
  show mx_wp (d + 36) 290 0 [some (.ref 381), some (.int i1), none, none, none] [] h Q
  refine wp_steps (i' := 4) (ls' := [some (.ref 381), some (.int i1), none, none, none]) (st' := [.int 200, .int 0, .int i1, .ref 381]) (h' := h) (P := True) 4 rfl rfl trivial ?_
  refine wp_call (b := false) (y' := 191) (as := [.int i1, .int 0, .int 200]) (rest := [.ref 381]) (P := True) rfl (by with_unfolding_all rfl) trivial (Nat.le_of_ble_eq_true rfl) (sp_191 G ?_)
  show mx_wp (d + 36) 290 5 [some (.ref 381), some (.int i1), none, none, none] [.int (V_191 (mx_i h 382) i1 (0 : Int32) (200 : Int32)), .ref 381] h Q
  have J : ∀ (v1 : Int32) (ev1 : v1 = ((if (V_191 (mx_i h 382) i1 (0 : Int32) (200 : Int32)) = 0 then 1 else 0) : Int32)), mx_wp (d + 36) 290 9 [some (.ref 381), some (.int i1), none, none, none] [.int v1, .ref 381] h Q := by
    intro v1 ev1
    have H := H v1 ev1
    refine wp_steps (i' := 10) (ls' := [some (.ref 381), some (.int i1), none, none, none]) (st' := []) (h' := mx_wi h 381 0 v1) (P := ((mxT 381).1 = 11 ∧ mxG h) ∧ True) 1 rfl rfl ⟨⟨(congrArg Prod.fst sT_381), G⟩, trivial⟩ ?_
    obtain ⟨h2, e3⟩ : ∃ z9, z9 = mx_wi h 381 0 v1 := ⟨_, rfl⟩
    rw [← e3]
    have H := H h2 e3
    have G4 : mxG h2 := e3 ▸ mxG_wi G
    refine wp_steps (i' := 12) (ls' := [some (.ref 381), some (.int i1), none, none, none]) (st' := [.int (mx_i h2 381 0)]) (h' := h2) (P := ((mxT 381).1 = 11 ∧ mxG h2) ∧ True) 2 rfl rfl ⟨⟨(congrArg Prod.fst sT_381), G4⟩, trivial⟩ ?_
    refine wp_br (P := True) (c := (mx_i h2 381 0) ≤ 0) (t := 15) (st' := []) rfl rfl trivial (fun c5 => ?_) (fun c5 => ?_)
    · have c5 := Int32.not_lt.mpr c5
      have H := H.2 c5
      refine wp_steps (i' := 16) (ls' := [some (.ref 381), some (.int i1), none, none, none]) (st' := [.ref 381]) (h' := h2) (P := True) 1 rfl rfl trivial ?_
      refine wp_call (b := false) (y' := 225) (as := [.ref 381]) (rest := []) (P := ((mxT 381).1 = mxRc 225 ∧ mxG h2)) rfl (by with_unfolding_all rfl) ⟨(congrArg Prod.fst sT_381), G4⟩ (Nat.le_of_ble_eq_true rfl) (sp_225 G4 ?_)
      show mx_wp (d + 36) 290 17 [some (.ref 381), some (.int i1), none, none, none] [] (W_225 h2) Q
      obtain ⟨h6, e7⟩ : ∃ z9, z9 = W_225 h2 := ⟨_, rfl⟩
      rw [← e7]
      have H := H h6 e7
      have K9 : mxK h2 h6 := e7 ▸ KW_225
      have G8 : mxG h6 := mxK_G K9 G4
      refine wp_steps (i' := 18) (ls' := [some (.ref 381), some (.int i1), none, none, none]) (st' := [.ref 381]) (h' := h6) (P := True) 1 rfl rfl trivial ?_
      obtain ⟨o10, H⟩ := H
      refine wp_call (b := false) (y' := 289) (as := [.ref 381]) (rest := []) (P := ((mxT 381).1 = mxRc 289 ∧ mxG h6)) rfl (by with_unfolding_all rfl) ⟨(congrArg Prod.fst sT_381), G8⟩ (Nat.le_of_ble_eq_true rfl) (sp_289 G8 o10 ?_)
      show mx_wp (d + 36) 290 19 [some (.ref 381), some (.int i1), none, none, none] [.int (V_289 (mx_i h6 382))] h6 Q
      refine wp_steps (i' := 23) (ls' := [some (.ref 381), some (.int i1), some (.int (V_289 (mx_i h6 382))), none, none]) (st' := [.int 0, .int i1, .ref 381]) (h' := h6) (P := True) 4 rfl rfl trivial ?_
      obtain ⟨o11, H⟩ := H
      refine wp_call (b := false) (y' := 241) (as := [.ref 381, .int i1, .int 0]) (rest := []) (P := ((mxT 381).1 = mxRc 241 ∧ mxG h6)) rfl (by with_unfolding_all rfl) ⟨(congrArg Prod.fst sT_381), G8⟩ (Nat.le_of_ble_eq_true rfl) (sp_241 G8 o11 ?_)
      intro x12 h13 p14
      show mx_wp (d + 36) 290 24 [some (.ref 381), some (.int i1), some (.int (V_289 (mx_i h6 382))), none, none] [.int x12] h13 Q
      have H := H x12 h13 p14
      have G15 : mxG h13 := mxK_G p14.1.1 G8
      refine wp_steps (i' := 26) (ls' := [some (.ref 381), some (.int i1), some (.int (V_289 (mx_i h6 382))), some (.int x12), none]) (st' := [.ref 381]) (h' := h13) (P := True) 2 rfl rfl trivial ?_
      obtain ⟨o16, H⟩ := H
      refine wp_call (b := false) (y' := 289) (as := [.ref 381]) (rest := []) (P := ((mxT 381).1 = mxRc 289 ∧ mxG h13)) rfl (by with_unfolding_all rfl) ⟨(congrArg Prod.fst sT_381), G15⟩ (Nat.le_of_ble_eq_true rfl) (sp_289 G15 o16 ?_)
      show mx_wp (d + 36) 290 27 [some (.ref 381), some (.int i1), some (.int (V_289 (mx_i h6 382))), some (.int x12), none] [.int (V_289 (mx_i h13 382))] h13 Q
      refine wp_steps (i' := 31) (ls' := [some (.ref 381), some (.int i1), some (.int (V_289 (mx_i h6 382))), some (.int x12), some (.int ((V_289 (mx_i h13 382)) - (V_289 (mx_i h6 382))))]) (st' := [.ref 381]) (h' := h13) (P := True) 4 rfl rfl trivial ?_
      refine wp_call (b := false) (y' := 226) (as := [.ref 381]) (rest := []) (P := ((mxT 381).1 = mxRc 226 ∧ mxG h13)) rfl (by with_unfolding_all rfl) ⟨(congrArg Prod.fst sT_381), G15⟩ (Nat.le_of_ble_eq_true rfl) (sp_226 G15 ?_)
      show mx_wp (d + 36) 290 32 [some (.ref 381), some (.int i1), some (.int (V_289 (mx_i h6 382))), some (.int x12), some (.int ((V_289 (mx_i h13 382)) - (V_289 (mx_i h6 382))))] [] (W_226 h13) Q
      obtain ⟨h17, e18⟩ : ∃ z9, z9 = W_226 h13 := ⟨_, rfl⟩
      rw [← e18]
      have H := H h17 e18
      have K20 : mxK h13 h17 := e18 ▸ KW_226
      have G19 : mxG h17 := mxK_G K20 G15
      refine wp_steps (i' := 33) (ls' := [some (.ref 381), some (.int i1), some (.int (V_289 (mx_i h6 382))), some (.int x12), some (.int ((V_289 (mx_i h13 382)) - (V_289 (mx_i h6 382))))]) (st' := [.int ((V_289 (mx_i h13 382)) - (V_289 (mx_i h6 382)))]) (h' := h17) (P := True) 1 rfl rfl trivial ?_
      exact wp_end (o := .inl (some (.int ((V_289 (mx_i h13 382)) - (V_289 (mx_i h6 382)))))) (h' := h17) (P := True) rfl rfl trivial H
    · have c5 := Int32.not_le.mp c5
      have H := H.1 c5
      refine wp_steps (i' := 14) (ls' := [some (.ref 381), some (.int i1), none, none, none]) (st' := [.int 0]) (h' := h2) (P := True) 1 rfl rfl trivial ?_
      exact wp_end (o := .inl (some (.int 0))) (h' := h2) (P := True) rfl rfl trivial H
  refine wp_br (P := True) (c := ¬ (V_191 (mx_i h 382) i1 (0 : Int32) (200 : Int32)) = 0) (t := 8) (st' := [.ref 381]) rfl rfl trivial (fun c21 => ?_) (fun c21 => ?_)
  · skip
    refine wp_steps (i' := 9) (ls' := [some (.ref 381), some (.int i1), none, none, none]) (st' := [.int 0, .ref 381]) (h' := h) (P := True) 1 rfl rfl trivial ?_
    exact J _ (by rw [if_neg c21])
  · have c21 := Decidable.of_not_not c21
    refine wp_steps (i' := 7) (ls' := [some (.ref 381), some (.int i1), none, none, none]) (st' := [.int 1, .ref 381]) (h' := h) (P := True) 1 rfl rfl trivial ?_
    refine wp_J (j := 9) (st' := [.int 1, .ref 381]) rfl rfl ?_
    exact J _ (by rw [if_pos c21])
/-! 291: StoneBacksModel.ahead(III)I -/
set_option maxRecDepth 8000 in
theorem tr_291_0 {d : Nat} {h : mxH} {Q : mxO → mxH → Prop} {i1 : Int32} {i2 : Int32} {i3 : Int32} (G : mxG h)  (H : (((V_191 (mx_i h 382) i1 (0 : Int32) ((mx_i h 382 3) - 1)) = 0 ∨ (V_191 (mx_i h 382) i1 (0 : Int32) ((mx_i h 382 3) - 1)) = 1) ∧ (∀ (v2 : Int32), v2 = ((if (V_200 (mx_i h 382) i1) = 0 then 1 else (if (V_191 (mx_i h 382) i2 (0 : Int32) (200 : Int32)) = 0 then 2 else (if (V_191 (mx_i h 382) i3 (0 : Int32) (3 : Int32)) = 0 then 3 else 0))) : Int32) → (∀ h3, h3 = mx_wi h 381 0 v2 → ((0 < (mx_i h3 381 0) → Q (.inl (some (.int 0))) h3) ∧ (¬ 0 < (mx_i h3 381 0) → (∀ h7, h7 = W_225 h3 → (okP h7 i2 ∧ (∀ (x12 : Int32) (h13 : mxH), p241 i2 (0 : Int32) h7 x12 h13 → (((i3 = 0 → (vp_in ((33 + (6 * i1)) + (0 : Int32)) 769 ∧ True)) ∧ (¬ i3 = 0 → ((i3 = 1 → (vp_in ((33 + (6 * i1)) + (2 : Int32)) 769 ∧ True)) ∧ (¬ i3 = 1 → ((i3 = 2 → (vp_in ((33 + (6 * i1)) + (4 : Int32)) 769 ∧ True)) ∧ (¬ i3 = 2 → (cB (mx_i h13 382 4) 10 ∧ True))))))) ∧ (∀ (v16 : Int32), v16 = ((if i3 = 0 then (V_196 (mx_i h13 382) i1 (0 : Int32)) else (if i3 = 1 then (V_196 (mx_i h13 382) i1 (2 : Int32)) else (if i3 = 2 then (V_196 (mx_i h13 382) i1 (4 : Int32)) else (V_205 (mx_i h13 382) i1)))) : Int32) → (∀ h17, h17 = W_226 h13 → Q (.inl (some (.int v16))) h17)))))))))))) : mx_wp (d + 36) 291 0 (mx_fr 291 [.ref 381, .int i1, .int i2, .int i3]) [] h Q := by
  show mx_wp (d + 36) 291 0 [some (.ref 381), some (.int i1), some (.int i2), some (.int i3), none, none] [] h Q
  refine wp_steps (i' := 3) (ls' := [some (.ref 381), some (.int i1), some (.int i2), some (.int i3), none, none]) (st' := [.int i1, .ref 381, .ref 381]) (h' := h) (P := True) 3 rfl rfl trivial ?_
  obtain ⟨o1, H⟩ := H
  refine wp_call (b := false) (y' := 200) (as := [.ref 381, .int i1]) (rest := [.ref 381]) (P := ((mxT 381).1 = mxRc 200 ∧ mxG h)) rfl (by with_unfolding_all rfl) ⟨(congrArg Prod.fst sT_381), G⟩ (Nat.le_of_ble_eq_true rfl) (sp_200 G o1 ?_)
  show mx_wp (d + 36) 291 4 [some (.ref 381), some (.int i1), some (.int i2), some (.int i3), none, none] [.int (V_200 (mx_i h 382) i1), .ref 381] h Q
  have J : ∀ (v2 : Int32) (ev2 : v2 = ((if (V_200 (mx_i h 382) i1) = 0 then 1 else (if (V_191 (mx_i h 382) i2 (0 : Int32) (200 : Int32)) = 0 then 2 else (if (V_191 (mx_i h 382) i3 (0 : Int32) (3 : Int32)) = 0 then 3 else 0))) : Int32)), mx_wp (d + 36) 291 22 [some (.ref 381), some (.int i1), some (.int i2), some (.int i3), none, none] [.int v2, .ref 381] h Q := by
    intro v2 ev2
    have H := H v2 ev2
    refine wp_steps (i' := 23) (ls' := [some (.ref 381), some (.int i1), some (.int i2), some (.int i3), none, none]) (st' := []) (h' := mx_wi h 381 0 v2) (P := ((mxT 381).1 = 11 ∧ mxG h) ∧ True) 1 rfl rfl ⟨⟨(congrArg Prod.fst sT_381), G⟩, trivial⟩ ?_
    obtain ⟨h3, e4⟩ : ∃ z9, z9 = mx_wi h 381 0 v2 := ⟨_, rfl⟩
    rw [← e4]
    have H := H h3 e4
    have G5 : mxG h3 := e4 ▸ mxG_wi G
    refine wp_steps (i' := 25) (ls' := [some (.ref 381), some (.int i1), some (.int i2), some (.int i3), none, none]) (st' := [.int (mx_i h3 381 0)]) (h' := h3) (P := ((mxT 381).1 = 11 ∧ mxG h3) ∧ True) 2 rfl rfl ⟨⟨(congrArg Prod.fst sT_381), G5⟩, trivial⟩ ?_
    refine wp_br (P := True) (c := (mx_i h3 381 0) ≤ 0) (t := 28) (st' := []) rfl rfl trivial (fun c6 => ?_) (fun c6 => ?_)
    · have c6 := Int32.not_lt.mpr c6
      have H := H.2 c6
      refine wp_steps (i' := 29) (ls' := [some (.ref 381), some (.int i1), some (.int i2), some (.int i3), none, none]) (st' := [.ref 381]) (h' := h3) (P := True) 1 rfl rfl trivial ?_
      refine wp_call (b := false) (y' := 225) (as := [.ref 381]) (rest := []) (P := ((mxT 381).1 = mxRc 225 ∧ mxG h3)) rfl (by with_unfolding_all rfl) ⟨(congrArg Prod.fst sT_381), G5⟩ (Nat.le_of_ble_eq_true rfl) (sp_225 G5 ?_)
      show mx_wp (d + 36) 291 30 [some (.ref 381), some (.int i1), some (.int i2), some (.int i3), none, none] [] (W_225 h3) Q
      obtain ⟨h7, e8⟩ : ∃ z9, z9 = W_225 h3 := ⟨_, rfl⟩
      rw [← e8]
      have H := H h7 e8
      have K10 : mxK h3 h7 := e8 ▸ KW_225
      have G9 : mxG h7 := mxK_G K10 G5
      refine wp_steps (i' := 33) (ls' := [some (.ref 381), some (.int i1), some (.int i2), some (.int i3), none, none]) (st' := [.int 0, .int i2, .ref 381]) (h' := h7) (P := True) 3 rfl rfl trivial ?_
      obtain ⟨o11, H⟩ := H
      refine wp_call (b := false) (y' := 241) (as := [.ref 381, .int i2, .int 0]) (rest := []) (P := ((mxT 381).1 = mxRc 241 ∧ mxG h7)) rfl (by with_unfolding_all rfl) ⟨(congrArg Prod.fst sT_381), G9⟩ (Nat.le_of_ble_eq_true rfl) (sp_241 G9 o11 ?_)
      intro x12 h13 p14
      show mx_wp (d + 36) 291 34 [some (.ref 381), some (.int i1), some (.int i2), some (.int i3), none, none] [.int x12] h13 Q
      have H := H x12 h13 p14
      have G15 : mxG h13 := mxK_G p14.1.1 G9
      refine wp_steps (i' := 36) (ls' := [some (.ref 381), some (.int i1), some (.int i2), some (.int i3), some (.int x12), none]) (st' := [.int i3]) (h' := h13) (P := True) 2 rfl rfl trivial ?_
      have J : ∀ (v16 : Int32) (ev16 : v16 = ((if i3 = 0 then (V_196 (mx_i h13 382) i1 (0 : Int32)) else (if i3 = 1 then (V_196 (mx_i h13 382) i1 (2 : Int32)) else (if i3 = 2 then (V_196 (mx_i h13 382) i1 (4 : Int32)) else (V_205 (mx_i h13 382) i1)))) : Int32)), mx_wp (d + 36) 291 61 [some (.ref 381), some (.int i1), some (.int i2), some (.int i3), some (.int x12), none] [.int v16] h13 Q := by
        intro v16 ev16
        have H := H.2 v16 ev16
        refine wp_steps (i' := 63) (ls' := [some (.ref 381), some (.int i1), some (.int i2), some (.int i3), some (.int x12), some (.int v16)]) (st' := [.ref 381]) (h' := h13) (P := True) 2 rfl rfl trivial ?_
        refine wp_call (b := false) (y' := 226) (as := [.ref 381]) (rest := []) (P := ((mxT 381).1 = mxRc 226 ∧ mxG h13)) rfl (by with_unfolding_all rfl) ⟨(congrArg Prod.fst sT_381), G15⟩ (Nat.le_of_ble_eq_true rfl) (sp_226 G15 ?_)
        show mx_wp (d + 36) 291 64 [some (.ref 381), some (.int i1), some (.int i2), some (.int i3), some (.int x12), some (.int v16)] [] (W_226 h13) Q
        obtain ⟨h17, e18⟩ : ∃ z9, z9 = W_226 h13 := ⟨_, rfl⟩
        rw [← e18]
        have H := H h17 e18
        have K20 : mxK h13 h17 := e18 ▸ KW_226
        have G19 : mxG h17 := mxK_G K20 G15
        refine wp_steps (i' := 65) (ls' := [some (.ref 381), some (.int i1), some (.int i2), some (.int i3), some (.int x12), some (.int v16)]) (st' := [.int v16]) (h' := h17) (P := True) 1 rfl rfl trivial ?_
        exact wp_end (o := .inl (some (.int v16))) (h' := h17) (P := True) rfl rfl trivial H
      have H := H.1
      refine wp_br (P := True) (c := ¬ i3 = 0) (t := 42) (st' := []) rfl rfl trivial (fun c21 => ?_) (fun c21 => ?_)
      · skip
        have H := H.2 c21
        refine wp_steps (i' := 44) (ls' := [some (.ref 381), some (.int i1), some (.int i2), some (.int i3), some (.int x12), none]) (st' := [.int 1, .int i3]) (h' := h13) (P := True) 2 rfl rfl trivial ?_
        refine wp_br (P := True) (c := ¬ i3 = 1) (t := 50) (st' := []) rfl rfl trivial (fun c22 => ?_) (fun c22 => ?_)
        · skip
          have H := H.2 c22
          refine wp_steps (i' := 52) (ls' := [some (.ref 381), some (.int i1), some (.int i2), some (.int i3), some (.int x12), none]) (st' := [.int 2, .int i3]) (h' := h13) (P := True) 2 rfl rfl trivial ?_
          refine wp_br (P := True) (c := ¬ i3 = 2) (t := 58) (st' := []) rfl rfl trivial (fun c23 => ?_) (fun c23 => ?_)
          · skip
            have H := H.2 c23
            refine wp_steps (i' := 60) (ls' := [some (.ref 381), some (.int i1), some (.int i2), some (.int i3), some (.int x12), none]) (st' := [.int i1, .ref 381]) (h' := h13) (P := True) 2 rfl rfl trivial ?_
            obtain ⟨o24, H⟩ := H
            refine wp_call (b := false) (y' := 205) (as := [.ref 381, .int i1]) (rest := []) (P := ((mxT 381).1 = mxRc 205 ∧ mxG h13)) rfl (by with_unfolding_all rfl) ⟨(congrArg Prod.fst sT_381), G15⟩ (Nat.le_of_ble_eq_true rfl) (sp_205 G15 o24 ?_)
            show mx_wp (d + 36) 291 61 [some (.ref 381), some (.int i1), some (.int i2), some (.int i3), some (.int x12), none] [.int (V_205 (mx_i h13 382) i1)] h13 Q
            exact J _ (by rw [if_neg c21, if_neg c22, if_neg c23])
          · have c23 := Decidable.of_not_not c23
            have H := H.1 c23
            refine wp_steps (i' := 56) (ls' := [some (.ref 381), some (.int i1), some (.int i2), some (.int i3), some (.int x12), none]) (st' := [.int 4, .int i1, .ref 381]) (h' := h13) (P := True) 3 rfl rfl trivial ?_
            obtain ⟨o25, H⟩ := H
            refine wp_call (b := false) (y' := 196) (as := [.ref 381, .int i1, .int 4]) (rest := []) (P := ((mxT 381).1 = mxRc 196 ∧ mxG h13)) rfl (by with_unfolding_all rfl) ⟨(congrArg Prod.fst sT_381), G15⟩ (Nat.le_of_ble_eq_true rfl) (sp_196 G15 o25 ?_)
            show mx_wp (d + 36) 291 57 [some (.ref 381), some (.int i1), some (.int i2), some (.int i3), some (.int x12), none] [.int (V_196 (mx_i h13 382) i1 (4 : Int32))] h13 Q
            refine wp_J (j := 61) (st' := [.int (V_196 (mx_i h13 382) i1 (4 : Int32))]) rfl rfl ?_
            exact J _ (by rw [if_neg c21, if_neg c22, if_pos c23])
        · have c22 := Decidable.of_not_not c22
          have H := H.1 c22
          refine wp_steps (i' := 48) (ls' := [some (.ref 381), some (.int i1), some (.int i2), some (.int i3), some (.int x12), none]) (st' := [.int 2, .int i1, .ref 381]) (h' := h13) (P := True) 3 rfl rfl trivial ?_
          obtain ⟨o26, H⟩ := H
          refine wp_call (b := false) (y' := 196) (as := [.ref 381, .int i1, .int 2]) (rest := []) (P := ((mxT 381).1 = mxRc 196 ∧ mxG h13)) rfl (by with_unfolding_all rfl) ⟨(congrArg Prod.fst sT_381), G15⟩ (Nat.le_of_ble_eq_true rfl) (sp_196 G15 o26 ?_)
          show mx_wp (d + 36) 291 49 [some (.ref 381), some (.int i1), some (.int i2), some (.int i3), some (.int x12), none] [.int (V_196 (mx_i h13 382) i1 (2 : Int32))] h13 Q
          refine wp_J (j := 61) (st' := [.int (V_196 (mx_i h13 382) i1 (2 : Int32))]) rfl rfl ?_
          exact J _ (by rw [if_neg c21, if_pos c22])
      · have c21 := Decidable.of_not_not c21
        have H := H.1 c21
        refine wp_steps (i' := 40) (ls' := [some (.ref 381), some (.int i1), some (.int i2), some (.int i3), some (.int x12), none]) (st' := [.int 0, .int i1, .ref 381]) (h' := h13) (P := True) 3 rfl rfl trivial ?_
        obtain ⟨o27, H⟩ := H
        refine wp_call (b := false) (y' := 196) (as := [.ref 381, .int i1, .int 0]) (rest := []) (P := ((mxT 381).1 = mxRc 196 ∧ mxG h13)) rfl (by with_unfolding_all rfl) ⟨(congrArg Prod.fst sT_381), G15⟩ (Nat.le_of_ble_eq_true rfl) (sp_196 G15 o27 ?_)
        show mx_wp (d + 36) 291 41 [some (.ref 381), some (.int i1), some (.int i2), some (.int i3), some (.int x12), none] [.int (V_196 (mx_i h13 382) i1 (0 : Int32))] h13 Q
        refine wp_J (j := 61) (st' := [.int (V_196 (mx_i h13 382) i1 (0 : Int32))]) rfl rfl ?_
        exact J _ (by rw [if_pos c21])
    · have c6 := Int32.not_le.mp c6
      have H := H.1 c6
      refine wp_steps (i' := 27) (ls' := [some (.ref 381), some (.int i1), some (.int i2), some (.int i3), none, none]) (st' := [.int 0]) (h' := h3) (P := True) 1 rfl rfl trivial ?_
      exact wp_end (o := .inl (some (.int 0))) (h' := h3) (P := True) rfl rfl trivial H
  refine wp_br (P := True) (c := ¬ (V_200 (mx_i h 382) i1) = 0) (t := 7) (st' := [.ref 381]) rfl rfl trivial (fun c28 => ?_) (fun c28 => ?_)
  · skip
    refine wp_steps (i' := 10) (ls' := [some (.ref 381), some (.int i1), some (.int i2), some (.int i3), none, none]) (st' := [.int 200, .int 0, .int i2, .ref 381]) (h' := h) (P := True) 3 rfl rfl trivial ?_
    refine wp_call (b := false) (y' := 191) (as := [.int i2, .int 0, .int 200]) (rest := [.ref 381]) (P := True) rfl (by with_unfolding_all rfl) trivial (Nat.le_of_ble_eq_true rfl) (sp_191 G ?_)
    show mx_wp (d + 36) 291 11 [some (.ref 381), some (.int i1), some (.int i2), some (.int i3), none, none] [.int (V_191 (mx_i h 382) i2 (0 : Int32) (200 : Int32)), .ref 381] h Q
    refine wp_br (P := True) (c := ¬ (V_191 (mx_i h 382) i2 (0 : Int32) (200 : Int32)) = 0) (t := 14) (st' := [.ref 381]) rfl rfl trivial (fun c29 => ?_) (fun c29 => ?_)
    · skip
      refine wp_steps (i' := 17) (ls' := [some (.ref 381), some (.int i1), some (.int i2), some (.int i3), none, none]) (st' := [.int 3, .int 0, .int i3, .ref 381]) (h' := h) (P := True) 3 rfl rfl trivial ?_
      refine wp_call (b := false) (y' := 191) (as := [.int i3, .int 0, .int 3]) (rest := [.ref 381]) (P := True) rfl (by with_unfolding_all rfl) trivial (Nat.le_of_ble_eq_true rfl) (sp_191 G ?_)
      show mx_wp (d + 36) 291 18 [some (.ref 381), some (.int i1), some (.int i2), some (.int i3), none, none] [.int (V_191 (mx_i h 382) i3 (0 : Int32) (3 : Int32)), .ref 381] h Q
      refine wp_br (P := True) (c := ¬ (V_191 (mx_i h 382) i3 (0 : Int32) (3 : Int32)) = 0) (t := 21) (st' := [.ref 381]) rfl rfl trivial (fun c30 => ?_) (fun c30 => ?_)
      · skip
        refine wp_steps (i' := 22) (ls' := [some (.ref 381), some (.int i1), some (.int i2), some (.int i3), none, none]) (st' := [.int 0, .ref 381]) (h' := h) (P := True) 1 rfl rfl trivial ?_
        exact J _ (by rw [if_neg c28, if_neg c29, if_neg c30])
      · have c30 := Decidable.of_not_not c30
        refine wp_steps (i' := 20) (ls' := [some (.ref 381), some (.int i1), some (.int i2), some (.int i3), none, none]) (st' := [.int 3, .ref 381]) (h' := h) (P := True) 1 rfl rfl trivial ?_
        refine wp_J (j := 22) (st' := [.int 3, .ref 381]) rfl rfl ?_
        exact J _ (by rw [if_neg c28, if_neg c29, if_pos c30])
    · have c29 := Decidable.of_not_not c29
      refine wp_steps (i' := 13) (ls' := [some (.ref 381), some (.int i1), some (.int i2), some (.int i3), none, none]) (st' := [.int 2, .ref 381]) (h' := h) (P := True) 1 rfl rfl trivial ?_
      refine wp_J (j := 22) (st' := [.int 2, .ref 381]) rfl rfl ?_
      exact J _ (by rw [if_neg c28, if_pos c29])
  · have c28 := Decidable.of_not_not c28
    refine wp_steps (i' := 6) (ls' := [some (.ref 381), some (.int i1), some (.int i2), some (.int i3), none, none]) (st' := [.int 1, .ref 381]) (h' := h) (P := True) 1 rfl rfl trivial ?_
    refine wp_J (j := 22) (st' := [.int 1, .ref 381]) rfl rfl ?_
    exact J _ (by rw [if_pos c28])
/-! 294: StoneBacksModel.trial(IZ)I -/
set_option maxRecDepth 8000 in
theorem tr_294_0 {d : Nat} {h : mxH} {Q : mxO → mxH → Prop} {i1 : Int32} {i2 : Int32} (G : mxG h)  (H : (∀ (v1 : Int32), v1 = ((if (V_191 (mx_i h 382) i1 (0 : Int32) (100 : Int32)) = 0 then 1 else 0) : Int32) → (∀ h2, h2 = mx_wi h 381 0 v1 → ((0 < (mx_i h2 381 0) → Q (.inl (some (.int 0))) h2) ∧ (¬ 0 < (mx_i h2 381 0) → (∀ h6, h6 = W_225 h2 → (okP h6 i1 ∧ (∀ (x11 : Int32) (h12 : mxH), p241 i1 (1 : Int32) h6 x11 h12 → (((i2 = 0 → (cB (mx_i h12 382 3) 6 ∧ True)) ∧ (¬ i2 = 0 → (cB (mx_i h12 382 3) 6 ∧ True))) ∧ (∀ (v15 : Int32), v15 = ((if i2 = 0 then (V_293 (mx_i h12 382)) else (V_292 (mx_i h12 382))) : Int32) → (∀ h16, h16 = W_226 h12 → Q (.inl (some (.int v15))) h16))))))))))) : mx_wp (d + 36) 294 0 (mx_fr 294 [.ref 381, .int i1, .int i2]) [] h Q := by
  show mx_wp (d + 36) 294 0 [some (.ref 381), some (.int i1), some (.int i2), none, none] [] h Q
  refine wp_steps (i' := 4) (ls' := [some (.ref 381), some (.int i1), some (.int i2), none, none]) (st' := [.int 100, .int 0, .int i1, .ref 381]) (h' := h) (P := True) 4 rfl rfl trivial ?_
  refine wp_call (b := false) (y' := 191) (as := [.int i1, .int 0, .int 100]) (rest := [.ref 381]) (P := True) rfl (by with_unfolding_all rfl) trivial (Nat.le_of_ble_eq_true rfl) (sp_191 G ?_)
  show mx_wp (d + 36) 294 5 [some (.ref 381), some (.int i1), some (.int i2), none, none] [.int (V_191 (mx_i h 382) i1 (0 : Int32) (100 : Int32)), .ref 381] h Q
  have J : ∀ (v1 : Int32) (ev1 : v1 = ((if (V_191 (mx_i h 382) i1 (0 : Int32) (100 : Int32)) = 0 then 1 else 0) : Int32)), mx_wp (d + 36) 294 9 [some (.ref 381), some (.int i1), some (.int i2), none, none] [.int v1, .ref 381] h Q := by
    intro v1 ev1
    have H := H v1 ev1
    refine wp_steps (i' := 10) (ls' := [some (.ref 381), some (.int i1), some (.int i2), none, none]) (st' := []) (h' := mx_wi h 381 0 v1) (P := ((mxT 381).1 = 11 ∧ mxG h) ∧ True) 1 rfl rfl ⟨⟨(congrArg Prod.fst sT_381), G⟩, trivial⟩ ?_
    obtain ⟨h2, e3⟩ : ∃ z9, z9 = mx_wi h 381 0 v1 := ⟨_, rfl⟩
    rw [← e3]
    have H := H h2 e3
    have G4 : mxG h2 := e3 ▸ mxG_wi G
    refine wp_steps (i' := 12) (ls' := [some (.ref 381), some (.int i1), some (.int i2), none, none]) (st' := [.int (mx_i h2 381 0)]) (h' := h2) (P := ((mxT 381).1 = 11 ∧ mxG h2) ∧ True) 2 rfl rfl ⟨⟨(congrArg Prod.fst sT_381), G4⟩, trivial⟩ ?_
    refine wp_br (P := True) (c := (mx_i h2 381 0) ≤ 0) (t := 15) (st' := []) rfl rfl trivial (fun c5 => ?_) (fun c5 => ?_)
    · have c5 := Int32.not_lt.mpr c5
      have H := H.2 c5
      refine wp_steps (i' := 16) (ls' := [some (.ref 381), some (.int i1), some (.int i2), none, none]) (st' := [.ref 381]) (h' := h2) (P := True) 1 rfl rfl trivial ?_
      refine wp_call (b := false) (y' := 225) (as := [.ref 381]) (rest := []) (P := ((mxT 381).1 = mxRc 225 ∧ mxG h2)) rfl (by with_unfolding_all rfl) ⟨(congrArg Prod.fst sT_381), G4⟩ (Nat.le_of_ble_eq_true rfl) (sp_225 G4 ?_)
      show mx_wp (d + 36) 294 17 [some (.ref 381), some (.int i1), some (.int i2), none, none] [] (W_225 h2) Q
      obtain ⟨h6, e7⟩ : ∃ z9, z9 = W_225 h2 := ⟨_, rfl⟩
      rw [← e7]
      have H := H h6 e7
      have K9 : mxK h2 h6 := e7 ▸ KW_225
      have G8 : mxG h6 := mxK_G K9 G4
      refine wp_steps (i' := 20) (ls' := [some (.ref 381), some (.int i1), some (.int i2), none, none]) (st' := [.int 1, .int i1, .ref 381]) (h' := h6) (P := True) 3 rfl rfl trivial ?_
      obtain ⟨o10, H⟩ := H
      refine wp_call (b := false) (y' := 241) (as := [.ref 381, .int i1, .int 1]) (rest := []) (P := ((mxT 381).1 = mxRc 241 ∧ mxG h6)) rfl (by with_unfolding_all rfl) ⟨(congrArg Prod.fst sT_381), G8⟩ (Nat.le_of_ble_eq_true rfl) (sp_241 G8 o10 ?_)
      intro x11 h12 p13
      show mx_wp (d + 36) 294 21 [some (.ref 381), some (.int i1), some (.int i2), none, none] [.int x11] h12 Q
      have H := H x11 h12 p13
      have G14 : mxG h12 := mxK_G p13.1.1 G8
      refine wp_steps (i' := 23) (ls' := [some (.ref 381), some (.int i1), some (.int i2), some (.int x11), none]) (st' := [.int i2]) (h' := h12) (P := True) 2 rfl rfl trivial ?_
      have J : ∀ (v15 : Int32) (ev15 : v15 = ((if i2 = 0 then (V_293 (mx_i h12 382)) else (V_292 (mx_i h12 382))) : Int32)), mx_wp (d + 36) 294 29 [some (.ref 381), some (.int i1), some (.int i2), some (.int x11), none] [.int v15] h12 Q := by
        intro v15 ev15
        have H := H.2 v15 ev15
        refine wp_steps (i' := 31) (ls' := [some (.ref 381), some (.int i1), some (.int i2), some (.int x11), some (.int v15)]) (st' := [.ref 381]) (h' := h12) (P := True) 2 rfl rfl trivial ?_
        refine wp_call (b := false) (y' := 226) (as := [.ref 381]) (rest := []) (P := ((mxT 381).1 = mxRc 226 ∧ mxG h12)) rfl (by with_unfolding_all rfl) ⟨(congrArg Prod.fst sT_381), G14⟩ (Nat.le_of_ble_eq_true rfl) (sp_226 G14 ?_)
        show mx_wp (d + 36) 294 32 [some (.ref 381), some (.int i1), some (.int i2), some (.int x11), some (.int v15)] [] (W_226 h12) Q
        obtain ⟨h16, e17⟩ : ∃ z9, z9 = W_226 h12 := ⟨_, rfl⟩
        rw [← e17]
        have H := H h16 e17
        have K19 : mxK h12 h16 := e17 ▸ KW_226
        have G18 : mxG h16 := mxK_G K19 G14
        refine wp_steps (i' := 33) (ls' := [some (.ref 381), some (.int i1), some (.int i2), some (.int x11), some (.int v15)]) (st' := [.int v15]) (h' := h16) (P := True) 1 rfl rfl trivial ?_
        exact wp_end (o := .inl (some (.int v15))) (h' := h16) (P := True) rfl rfl trivial H
      have H := H.1
      refine wp_br (P := True) (c := i2 = 0) (t := 27) (st' := []) rfl rfl trivial (fun c20 => ?_) (fun c20 => ?_)
      · skip
        have H := H.1 c20
        refine wp_steps (i' := 28) (ls' := [some (.ref 381), some (.int i1), some (.int i2), some (.int x11), none]) (st' := [.ref 381]) (h' := h12) (P := True) 1 rfl rfl trivial ?_
        obtain ⟨o21, H⟩ := H
        refine wp_call (b := false) (y' := 293) (as := [.ref 381]) (rest := []) (P := ((mxT 381).1 = mxRc 293 ∧ mxG h12)) rfl (by with_unfolding_all rfl) ⟨(congrArg Prod.fst sT_381), G14⟩ (Nat.le_of_ble_eq_true rfl) (sp_293 G14 o21 ?_)
        show mx_wp (d + 36) 294 29 [some (.ref 381), some (.int i1), some (.int i2), some (.int x11), none] [.int (V_293 (mx_i h12 382))] h12 Q
        exact J _ (by rw [if_pos c20])
      · skip
        have H := H.2 c20
        refine wp_steps (i' := 25) (ls' := [some (.ref 381), some (.int i1), some (.int i2), some (.int x11), none]) (st' := [.ref 381]) (h' := h12) (P := True) 1 rfl rfl trivial ?_
        obtain ⟨o22, H⟩ := H
        refine wp_call (b := false) (y' := 292) (as := [.ref 381]) (rest := []) (P := ((mxT 381).1 = mxRc 292 ∧ mxG h12)) rfl (by with_unfolding_all rfl) ⟨(congrArg Prod.fst sT_381), G14⟩ (Nat.le_of_ble_eq_true rfl) (sp_292 G14 o22 ?_)
        show mx_wp (d + 36) 294 26 [some (.ref 381), some (.int i1), some (.int i2), some (.int x11), none] [.int (V_292 (mx_i h12 382))] h12 Q
        refine wp_J (j := 29) (st' := [.int (V_292 (mx_i h12 382))]) rfl rfl ?_
        exact J _ (by rw [if_neg c20])
    · have c5 := Int32.not_le.mp c5
      have H := H.1 c5
      refine wp_steps (i' := 14) (ls' := [some (.ref 381), some (.int i1), some (.int i2), none, none]) (st' := [.int 0]) (h' := h2) (P := True) 1 rfl rfl trivial ?_
      exact wp_end (o := .inl (some (.int 0))) (h' := h2) (P := True) rfl rfl trivial H
  refine wp_br (P := True) (c := ¬ (V_191 (mx_i h 382) i1 (0 : Int32) (100 : Int32)) = 0) (t := 8) (st' := [.ref 381]) rfl rfl trivial (fun c23 => ?_) (fun c23 => ?_)
  · skip
    refine wp_steps (i' := 9) (ls' := [some (.ref 381), some (.int i1), some (.int i2), none, none]) (st' := [.int 0, .ref 381]) (h' := h) (P := True) 1 rfl rfl trivial ?_
    exact J _ (by rw [if_neg c23])
  · have c23 := Decidable.of_not_not c23
    refine wp_steps (i' := 7) (ls' := [some (.ref 381), some (.int i1), some (.int i2), none, none]) (st' := [.int 1, .ref 381]) (h' := h) (P := True) 1 rfl rfl trivial ?_
    refine wp_J (j := 9) (st' := [.int 1, .ref 381]) rfl rfl ?_
    exact J _ (by rw [if_pos c23])
/-! 295: StoneBacksModel.span(IZ)I -/
def H_295_21 (d : Nat) (h : mxH) (i1 : Int32) (i2 : Int32) (i3 : Int32) (i4 : Int32) (Q : mxO → mxH → Prop) : Prop := ∀ (w5 : Option Value) (w6 : Option Value), mx_wp d 295 21 [some (.ref 381), some (.int i1), some (.int i2), some (.int i3), some (.int i4), w5, w6] [] h Q
set_option maxRecDepth 8000 in
theorem tr_295_0 {d : Nat} {h : mxH} {Q : mxO → mxH → Prop} {i1 : Int32} {i2 : Int32} (G : mxG h)  (H : (∀ (v1 : Int32), v1 = ((if (V_191 (mx_i h 382) i1 (0 : Int32) (100 : Int32)) = 0 then 1 else 0) : Int32) → (∀ h2, h2 = mx_wi h 381 0 v1 → ((0 < (mx_i h2 381 0) → Q (.inl (some (.int 0))) h2) ∧ (¬ 0 < (mx_i h2 381 0) → (∀ h6, h6 = W_225 h2 → H_295_21 (d + 36) h6 i1 i2 (-1) 1 Q)))))) : mx_wp (d + 36) 295 0 (mx_fr 295 [.ref 381, .int i1, .int i2]) [] h Q := by
  show mx_wp (d + 36) 295 0 [some (.ref 381), some (.int i1), some (.int i2), none, none, none, none] [] h Q
  refine wp_steps (i' := 4) (ls' := [some (.ref 381), some (.int i1), some (.int i2), none, none, none, none]) (st' := [.int 100, .int 0, .int i1, .ref 381]) (h' := h) (P := True) 4 rfl rfl trivial ?_
  refine wp_call (b := false) (y' := 191) (as := [.int i1, .int 0, .int 100]) (rest := [.ref 381]) (P := True) rfl (by with_unfolding_all rfl) trivial (Nat.le_of_ble_eq_true rfl) (sp_191 G ?_)
  show mx_wp (d + 36) 295 5 [some (.ref 381), some (.int i1), some (.int i2), none, none, none, none] [.int (V_191 (mx_i h 382) i1 (0 : Int32) (100 : Int32)), .ref 381] h Q
  have J : ∀ (v1 : Int32) (ev1 : v1 = ((if (V_191 (mx_i h 382) i1 (0 : Int32) (100 : Int32)) = 0 then 1 else 0) : Int32)), mx_wp (d + 36) 295 9 [some (.ref 381), some (.int i1), some (.int i2), none, none, none, none] [.int v1, .ref 381] h Q := by
    intro v1 ev1
    have H := H v1 ev1
    refine wp_steps (i' := 10) (ls' := [some (.ref 381), some (.int i1), some (.int i2), none, none, none, none]) (st' := []) (h' := mx_wi h 381 0 v1) (P := ((mxT 381).1 = 11 ∧ mxG h) ∧ True) 1 rfl rfl ⟨⟨(congrArg Prod.fst sT_381), G⟩, trivial⟩ ?_
    obtain ⟨h2, e3⟩ : ∃ z9, z9 = mx_wi h 381 0 v1 := ⟨_, rfl⟩
    rw [← e3]
    have H := H h2 e3
    have G4 : mxG h2 := e3 ▸ mxG_wi G
    refine wp_steps (i' := 12) (ls' := [some (.ref 381), some (.int i1), some (.int i2), none, none, none, none]) (st' := [.int (mx_i h2 381 0)]) (h' := h2) (P := ((mxT 381).1 = 11 ∧ mxG h2) ∧ True) 2 rfl rfl ⟨⟨(congrArg Prod.fst sT_381), G4⟩, trivial⟩ ?_
    refine wp_br (P := True) (c := (mx_i h2 381 0) ≤ 0) (t := 15) (st' := []) rfl rfl trivial (fun c5 => ?_) (fun c5 => ?_)
    · have c5 := Int32.not_lt.mpr c5
      have H := H.2 c5
      refine wp_steps (i' := 16) (ls' := [some (.ref 381), some (.int i1), some (.int i2), none, none, none, none]) (st' := [.ref 381]) (h' := h2) (P := True) 1 rfl rfl trivial ?_
      refine wp_call (b := false) (y' := 225) (as := [.ref 381]) (rest := []) (P := ((mxT 381).1 = mxRc 225 ∧ mxG h2)) rfl (by with_unfolding_all rfl) ⟨(congrArg Prod.fst sT_381), G4⟩ (Nat.le_of_ble_eq_true rfl) (sp_225 G4 ?_)
      show mx_wp (d + 36) 295 17 [some (.ref 381), some (.int i1), some (.int i2), none, none, none, none] [] (W_225 h2) Q
      obtain ⟨h6, e7⟩ : ∃ z9, z9 = W_225 h2 := ⟨_, rfl⟩
      rw [← e7]
      have H := H h6 e7
      have K9 : mxK h2 h6 := e7 ▸ KW_225
      have G8 : mxG h6 := mxK_G K9 G4
      refine wp_steps (i' := 21) (ls' := [some (.ref 381), some (.int i1), some (.int i2), some (.int (-1)), some (.int 1), none, none]) (st' := []) (h' := h6) (P := True) 4 rfl rfl trivial ?_
      exact H _ _
    · have c5 := Int32.not_le.mp c5
      have H := H.1 c5
      refine wp_steps (i' := 14) (ls' := [some (.ref 381), some (.int i1), some (.int i2), none, none, none, none]) (st' := [.int 0]) (h' := h2) (P := True) 1 rfl rfl trivial ?_
      exact wp_end (o := .inl (some (.int 0))) (h' := h2) (P := True) rfl rfl trivial H
  refine wp_br (P := True) (c := ¬ (V_191 (mx_i h 382) i1 (0 : Int32) (100 : Int32)) = 0) (t := 8) (st' := [.ref 381]) rfl rfl trivial (fun c10 => ?_) (fun c10 => ?_)
  · skip
    refine wp_steps (i' := 9) (ls' := [some (.ref 381), some (.int i1), some (.int i2), none, none, none, none]) (st' := [.int 0, .ref 381]) (h' := h) (P := True) 1 rfl rfl trivial ?_
    exact J _ (by rw [if_neg c10])
  · have c10 := Decidable.of_not_not c10
    refine wp_steps (i' := 7) (ls' := [some (.ref 381), some (.int i1), some (.int i2), none, none, none, none]) (st' := [.int 1, .ref 381]) (h' := h) (P := True) 1 rfl rfl trivial ?_
    refine wp_J (j := 9) (st' := [.int 1, .ref 381]) rfl rfl ?_
    exact J _ (by rw [if_pos c10])
set_option maxRecDepth 8000 in
theorem tr_295_21 {d : Nat} {h : mxH} {Q : mxO → mxH → Prop}  {i1 : Int32} {i2 : Int32} {i3 : Int32} {i4 : Int32} (G : mxG h)  (H : ((6 < i4 → Q (.inl (some (.int i3))) h) ∧ (¬ 6 < i4 → (∀ h2, h2 = mx_wi h 382 8 i4 → (okP h2 i1 ∧ (∀ (x6 : Int32) (h7 : mxH), p241 i1 (1 : Int32) h2 x6 h7 → (cB (mx_i h7 382 3) 6 ∧ (∀ h11, h11 = W_226 h7 → (∀ (v15 : Int32), v15 = ((if i3 = (-1) then (V_195 (mx_i h7 382) (V_292 (mx_i h7 382))) else (if i2 = 0 then (V_192 (mx_i h11 382) i3 (V_195 (mx_i h7 382) (V_292 (mx_i h7 382)))) else (V_193 (mx_i h11 382) i3 (V_195 (mx_i h7 382) (V_292 (mx_i h7 382)))))) : Int32) → H_295_21 (d + 36) h11 i1 i2 v15 (i4 + 1) Q))))))))) : H_295_21 (d + 36) h i1 i2 i3 i4 Q := by
  intro w5 w6
  show mx_wp (d + 36) 295 21 [some (.ref 381), some (.int i1), some (.int i2), some (.int i3), some (.int i4), w5, w6] [] h Q
  refine wp_steps (i' := 23) (ls' := [some (.ref 381), some (.int i1), some (.int i2), some (.int i3), some (.int i4), w5, w6]) (st' := [.int 6, .int i4]) (h' := h) (P := True) 2 rfl rfl trivial ?_
  refine wp_br (P := True) (c := 6 < i4) (t := 57) (st' := []) rfl rfl trivial (fun c1 => ?_) (fun c1 => ?_)
  · skip
    have H := H.1 c1
    refine wp_steps (i' := 58) (ls' := [some (.ref 381), some (.int i1), some (.int i2), some (.int i3), some (.int i4), w5, w6]) (st' := [.int i3]) (h' := h) (P := True) 1 rfl rfl trivial ?_
    exact wp_end (o := .inl (some (.int i3))) (h' := h) (P := True) rfl rfl trivial H
  · skip
    have H := H.2 c1
    refine wp_steps (i' := 29) (ls' := [some (.ref 381), some (.int i1), some (.int i2), some (.int i3), some (.int i4), w5, w6]) (st' := []) (h' := mx_wi h 382 8 i4) (P := ((mxT 381).1 = 11 ∧ mxG h) ∧ (((mxT 382).1 = 50 ∧ mxG h) ∧ vp_in 8 (mxT 382).2) ∧ True) 5 rfl rfl ⟨⟨(congrArg Prod.fst sT_381), G⟩, (cA sT_382 G (vpl rfl)), trivial⟩ ?_
    obtain ⟨h2, e3⟩ : ∃ z9, z9 = mx_wi h 382 8 i4 := ⟨_, rfl⟩
    rw [← e3]
    have H := H h2 e3
    have G4 : mxG h2 := e3 ▸ mxG_wi G
    refine wp_steps (i' := 32) (ls' := [some (.ref 381), some (.int i1), some (.int i2), some (.int i3), some (.int i4), w5, w6]) (st' := [.int 1, .int i1, .ref 381]) (h' := h2) (P := True) 3 rfl rfl trivial ?_
    obtain ⟨o5, H⟩ := H
    refine wp_call (b := false) (y' := 241) (as := [.ref 381, .int i1, .int 1]) (rest := []) (P := ((mxT 381).1 = mxRc 241 ∧ mxG h2)) rfl (by with_unfolding_all rfl) ⟨(congrArg Prod.fst sT_381), G4⟩ (Nat.le_of_ble_eq_true rfl) (sp_241 G4 o5 ?_)
    intro x6 h7 p8
    show mx_wp (d + 36) 295 33 [some (.ref 381), some (.int i1), some (.int i2), some (.int i3), some (.int i4), w5, w6] [.int x6] h7 Q
    have H := H x6 h7 p8
    have G9 : mxG h7 := mxK_G p8.1.1 G4
    refine wp_steps (i' := 35) (ls' := [some (.ref 381), some (.int i1), some (.int i2), some (.int i3), some (.int i4), some (.int x6), w6]) (st' := [.ref 381]) (h' := h7) (P := True) 2 rfl rfl trivial ?_
    obtain ⟨o10, H⟩ := H
    refine wp_call (b := false) (y' := 292) (as := [.ref 381]) (rest := []) (P := ((mxT 381).1 = mxRc 292 ∧ mxG h7)) rfl (by with_unfolding_all rfl) ⟨(congrArg Prod.fst sT_381), G9⟩ (Nat.le_of_ble_eq_true rfl) (sp_292 G9 o10 ?_)
    show mx_wp (d + 36) 295 36 [some (.ref 381), some (.int i1), some (.int i2), some (.int i3), some (.int i4), some (.int x6), w6] [.int (V_292 (mx_i h7 382))] h7 Q
    refine wp_call (b := false) (y' := 195) (as := [.int (V_292 (mx_i h7 382))]) (rest := []) (P := True) rfl (by with_unfolding_all rfl) trivial (Nat.le_of_ble_eq_true rfl) (sp_195 G9 ?_)
    show mx_wp (d + 36) 295 37 [some (.ref 381), some (.int i1), some (.int i2), some (.int i3), some (.int i4), some (.int x6), w6] [.int (V_195 (mx_i h7 382) (V_292 (mx_i h7 382)))] h7 Q
    refine wp_steps (i' := 39) (ls' := [some (.ref 381), some (.int i1), some (.int i2), some (.int i3), some (.int i4), some (.int x6), some (.int (V_195 (mx_i h7 382) (V_292 (mx_i h7 382))))]) (st' := [.ref 381]) (h' := h7) (P := True) 2 rfl rfl trivial ?_
    refine wp_call (b := false) (y' := 226) (as := [.ref 381]) (rest := []) (P := ((mxT 381).1 = mxRc 226 ∧ mxG h7)) rfl (by with_unfolding_all rfl) ⟨(congrArg Prod.fst sT_381), G9⟩ (Nat.le_of_ble_eq_true rfl) (sp_226 G9 ?_)
    show mx_wp (d + 36) 295 40 [some (.ref 381), some (.int i1), some (.int i2), some (.int i3), some (.int i4), some (.int x6), some (.int (V_195 (mx_i h7 382) (V_292 (mx_i h7 382))))] [] (W_226 h7) Q
    obtain ⟨h11, e12⟩ : ∃ z9, z9 = W_226 h7 := ⟨_, rfl⟩
    rw [← e12]
    have H := H h11 e12
    have K14 : mxK h7 h11 := e12 ▸ KW_226
    have G13 : mxG h11 := mxK_G K14 G9
    refine wp_steps (i' := 42) (ls' := [some (.ref 381), some (.int i1), some (.int i2), some (.int i3), some (.int i4), some (.int x6), some (.int (V_195 (mx_i h7 382) (V_292 (mx_i h7 382))))]) (st' := [.int (-1), .int i3]) (h' := h11) (P := True) 2 rfl rfl trivial ?_
    have J : ∀ (v15 : Int32) (ev15 : v15 = ((if i3 = (-1) then (V_195 (mx_i h7 382) (V_292 (mx_i h7 382))) else (if i2 = 0 then (V_192 (mx_i h11 382) i3 (V_195 (mx_i h7 382) (V_292 (mx_i h7 382)))) else (V_193 (mx_i h11 382) i3 (V_195 (mx_i h7 382) (V_292 (mx_i h7 382)))))) : Int32)), mx_wp (d + 36) 295 54 [some (.ref 381), some (.int i1), some (.int i2), some (.int i3), some (.int i4), some (.int x6), some (.int (V_195 (mx_i h7 382) (V_292 (mx_i h7 382))))] [.int v15] h11 Q := by
      intro v15 ev15
      have H := H v15 ev15
      refine wp_steps (i' := 56) (ls' := [some (.ref 381), some (.int i1), some (.int i2), some (.int v15), some (.int (i4 + 1)), some (.int x6), some (.int (V_195 (mx_i h7 382) (V_292 (mx_i h7 382))))]) (st' := []) (h' := h11) (P := True) 2 rfl rfl trivial ?_
      refine wp_J (j := 21) (st' := []) rfl rfl ?_
      exact H _ _
    refine wp_br (P := True) (c := ¬ i3 = (-1)) (t := 45) (st' := []) rfl rfl trivial (fun c16 => ?_) (fun c16 => ?_)
    · skip
      refine wp_steps (i' := 46) (ls' := [some (.ref 381), some (.int i1), some (.int i2), some (.int i3), some (.int i4), some (.int x6), some (.int (V_195 (mx_i h7 382) (V_292 (mx_i h7 382))))]) (st' := [.int i2]) (h' := h11) (P := True) 1 rfl rfl trivial ?_
      refine wp_br (P := True) (c := i2 = 0) (t := 51) (st' := []) rfl rfl trivial (fun c17 => ?_) (fun c17 => ?_)
      · skip
        refine wp_steps (i' := 53) (ls' := [some (.ref 381), some (.int i1), some (.int i2), some (.int i3), some (.int i4), some (.int x6), some (.int (V_195 (mx_i h7 382) (V_292 (mx_i h7 382))))]) (st' := [.int (V_195 (mx_i h7 382) (V_292 (mx_i h7 382))), .int i3]) (h' := h11) (P := True) 2 rfl rfl trivial ?_
        refine wp_call (b := false) (y' := 192) (as := [.int i3, .int (V_195 (mx_i h7 382) (V_292 (mx_i h7 382)))]) (rest := []) (P := True) rfl (by with_unfolding_all rfl) trivial (Nat.le_of_ble_eq_true rfl) (sp_192 G13 ?_)
        show mx_wp (d + 36) 295 54 [some (.ref 381), some (.int i1), some (.int i2), some (.int i3), some (.int i4), some (.int x6), some (.int (V_195 (mx_i h7 382) (V_292 (mx_i h7 382))))] [.int (V_192 (mx_i h11 382) i3 (V_195 (mx_i h7 382) (V_292 (mx_i h7 382))))] h11 Q
        exact J _ (by rw [if_neg c16, if_pos c17])
      · skip
        refine wp_steps (i' := 49) (ls' := [some (.ref 381), some (.int i1), some (.int i2), some (.int i3), some (.int i4), some (.int x6), some (.int (V_195 (mx_i h7 382) (V_292 (mx_i h7 382))))]) (st' := [.int (V_195 (mx_i h7 382) (V_292 (mx_i h7 382))), .int i3]) (h' := h11) (P := True) 2 rfl rfl trivial ?_
        refine wp_call (b := false) (y' := 193) (as := [.int i3, .int (V_195 (mx_i h7 382) (V_292 (mx_i h7 382)))]) (rest := []) (P := True) rfl (by with_unfolding_all rfl) trivial (Nat.le_of_ble_eq_true rfl) (sp_193 G13 ?_)
        show mx_wp (d + 36) 295 50 [some (.ref 381), some (.int i1), some (.int i2), some (.int i3), some (.int i4), some (.int x6), some (.int (V_195 (mx_i h7 382) (V_292 (mx_i h7 382))))] [.int (V_193 (mx_i h11 382) i3 (V_195 (mx_i h7 382) (V_292 (mx_i h7 382))))] h11 Q
        refine wp_J (j := 54) (st' := [.int (V_193 (mx_i h11 382) i3 (V_195 (mx_i h7 382) (V_292 (mx_i h7 382))))]) rfl rfl ?_
        exact J _ (by rw [if_neg c16, if_neg c17])
    · have c16 := Decidable.of_not_not c16
      refine wp_steps (i' := 44) (ls' := [some (.ref 381), some (.int i1), some (.int i2), some (.int i3), some (.int i4), some (.int x6), some (.int (V_195 (mx_i h7 382) (V_292 (mx_i h7 382))))]) (st' := [.int (V_195 (mx_i h7 382) (V_292 (mx_i h7 382)))]) (h' := h11) (P := True) 1 rfl rfl trivial ?_
      refine wp_J (j := 54) (st' := [.int (V_195 (mx_i h7 382) (V_292 (mx_i h7 382)))]) rfl rfl ?_
      exact J _ (by rw [if_pos c16])
