/-! 224: StoneBacksModel.read(Z)I -/
def H_224_13 (d : Nat) (h : mxH) (i1 : Int32) (i2 : Int32) (i3 : Int32) (Q : mxO → mxH → Prop) : Prop := mx_wp d 224 13 [some (.ref 381), some (.int i1), some (.int i2), some (.int i3)] [] h Q
set_option maxRecDepth 8000 in
theorem tr_224_0 {d : Nat} {h : mxH} {Q : mxO → mxH → Prop} {i1 : Int32} (G : mxG h)  (H : (okT2 h ∧ (∀ (h3 : mxH), (mxK h h3 ∧ psk2 h h3) → (∀ (v6 : Int32), v6 = ((if (mx_i h3 381 11) < (mx_i h3 381 10) then 1 else 0) : Int32) → H_224_13 (d + 32) h3 i1 v6 0 Q)))) : mx_wp (d + 32) 224 0 (mx_fr 224 [.ref 381, .int i1]) [] h Q := by
  show mx_wp (d + 32) 224 0 [some (.ref 381), some (.int i1), none, none] [] h Q
  refine wp_steps (i' := 1) (ls' := [some (.ref 381), some (.int i1), none, none]) (st' := [.ref 381]) (h' := h) (P := True) 1 rfl rfl trivial ?_
  obtain ⟨o1, H⟩ := H
  refine wp_call (b := false) (y' := 210) (as := [.ref 381]) (rest := []) (P := ((mxT 381).1 = mxRc 210 ∧ mxG h)) rfl (by with_unfolding_all rfl) ⟨(congrArg Prod.fst sT_381), G⟩ (Nat.le_of_ble_eq_true rfl) (sp_210b G o1 ?_)
  intro h3 p4
  show mx_wp (d + 32) 224 2 [some (.ref 381), some (.int i1), none, none] [] h3 Q
  have H := H h3 p4
  have G5 : mxG h3 := mxK_G p4.1 G
  refine wp_steps (i' := 6) (ls' := [some (.ref 381), some (.int i1), none, none]) (st' := [.int (mx_i h3 381 10), .int (mx_i h3 381 11)]) (h' := h3) (P := ((mxT 381).1 = 11 ∧ mxG h3) ∧ ((mxT 381).1 = 11 ∧ mxG h3) ∧ True) 4 rfl rfl ⟨⟨(congrArg Prod.fst sT_381), G5⟩, ⟨(congrArg Prod.fst sT_381), G5⟩, trivial⟩ ?_
  have J : ∀ (v6 : Int32) (ev6 : v6 = ((if (mx_i h3 381 11) < (mx_i h3 381 10) then 1 else 0) : Int32)), mx_wp (d + 32) 224 10 [some (.ref 381), some (.int i1), none, none] [.int v6] h3 Q := by
    intro v6 ev6
    have H := H v6 ev6
    refine wp_steps (i' := 13) (ls' := [some (.ref 381), some (.int i1), some (.int v6), some (.int 0)]) (st' := []) (h' := h3) (P := True) 3 rfl rfl trivial ?_
    exact H 
  refine wp_br (P := True) (c := (mx_i h3 381 10) ≤ (mx_i h3 381 11)) (t := 9) (st' := []) rfl rfl trivial (fun c7 => ?_) (fun c7 => ?_)
  · have c7 := Int32.not_lt.mpr c7
    refine wp_steps (i' := 10) (ls' := [some (.ref 381), some (.int i1), none, none]) (st' := [.int 0]) (h' := h3) (P := True) 1 rfl rfl trivial ?_
    exact J _ (by rw [if_neg c7])
  · have c7 := Int32.not_le.mp c7
    refine wp_steps (i' := 8) (ls' := [some (.ref 381), some (.int i1), none, none]) (st' := [.int 1]) (h' := h3) (P := True) 1 rfl rfl trivial ?_
    refine wp_J (j := 10) (st' := [.int 1]) rfl rfl ?_
    exact J _ (by rw [if_pos c7])
set_option maxRecDepth 8000 in
theorem tr_224_13 {d : Nat} {h : mxH} {Q : mxO → mxH → Prop}  {i1 : Int32} {i2 : Int32} {i3 : Int32} (G : mxG h)  (H : ((i2 = 0 → Q (.inl (some (.int i3))) h) ∧ (¬ i2 = 0 → (((mx_i h 381 12) = (-1) → (okT2 h ∧ (∀ (h5 : mxH), (mxK h h5 ∧ psk2 h h5) → (∀ (v8 : Int32), v8 = ((if i1 = 0 then 14 else 12) : Int32) → ((i3 = v8 → (∀ h64, h64 = W_213 h5 (mx_i h5 381 11) → (okT2 h64 ∧ (∀ (h70 : mxH), (mxK h64 h70 ∧ psk2 h64 h70) → (((mx_i h70 381 12) = (-1) → (((mx_i h70 381 11) = (mx_i h70 381 10) → H_224_13 (d + 32) h70 i1 0 (i3 + 1) Q) ∧ (¬ (mx_i h70 381 11) = (mx_i h70 381 10) → (okT h70 ∧ (∀ (x76 : Int32) (h77 : mxH), p211 (59 : Int32) h70 x76 h77 → ((x76 = 0 → (∀ h81, h81 = W_213 h77 (mx_i h77 381 11) → H_224_13 (d + 32) h81 i1 i2 (i3 + 1) Q)) ∧ (¬ x76 = 0 → (∀ h85, h85 = mx_wi h77 381 11 ((mx_i h77 381 11) + 1) → H_224_13 (d + 32) h85 i1 i2 (i3 + 1) Q)))))))) ∧ (¬ (mx_i h70 381 12) = (-1) → H_224_13 (d + 32) h70 i1 0 (i3 + 1) Q)))))) ∧ (¬ i3 = v8 → ((i1 = 0 → (False ∧ (∀ (h13 : mxH), mxK h5 h13 → (okT2 h13 ∧ (∀ (h18 : mxH), (mxK h13 h18 ∧ psk2 h13 h18) → (((mx_i h18 381 12) = (-1) → (((mx_i h18 381 11) = (mx_i h18 381 10) → H_224_13 (d + 32) h18 i1 0 (i3 + 1) Q) ∧ (¬ (mx_i h18 381 11) = (mx_i h18 381 10) → (okT h18 ∧ (∀ (x24 : Int32) (h25 : mxH), p211 (59 : Int32) h18 x24 h25 → ((x24 = 0 → (∀ h29, h29 = W_213 h25 (mx_i h25 381 11) → H_224_13 (d + 32) h29 i1 i2 (i3 + 1) Q)) ∧ (¬ x24 = 0 → (∀ h33, h33 = mx_wi h25 381 11 ((mx_i h25 381 11) + 1) → H_224_13 (d + 32) h33 i1 i2 (i3 + 1) Q)))))))) ∧ (¬ (mx_i h18 381 12) = (-1) → H_224_13 (d + 32) h18 i1 0 (i3 + 1) Q))))))) ∧ (¬ i1 = 0 → (okT h5 ∧ mx_i h5 381 12 = -1 ∧ fc01 h5 ∧ mx_i h5 381 13 = 0 ∧ (∀ (h41 : mxH), p234 h5 h41 → (okT2 h41 ∧ (∀ (h46 : mxH), (mxK h41 h46 ∧ psk2 h41 h46) → (((mx_i h46 381 12) = (-1) → (((mx_i h46 381 11) = (mx_i h46 381 10) → H_224_13 (d + 32) h46 i1 0 (i3 + 1) Q) ∧ (¬ (mx_i h46 381 11) = (mx_i h46 381 10) → (okT h46 ∧ (∀ (x52 : Int32) (h53 : mxH), p211 (59 : Int32) h46 x52 h53 → ((x52 = 0 → (∀ h57, h57 = W_213 h53 (mx_i h53 381 11) → H_224_13 (d + 32) h57 i1 i2 (i3 + 1) Q)) ∧ (¬ x52 = 0 → (∀ h61, h61 = mx_wi h53 381 11 ((mx_i h53 381 11) + 1) → H_224_13 (d + 32) h61 i1 i2 (i3 + 1) Q)))))))) ∧ (¬ (mx_i h46 381 12) = (-1) → H_224_13 (d + 32) h46 i1 0 (i3 + 1) Q)))))))))))))) ∧ (¬ (mx_i h 381 12) = (-1) → Q (.inl (some (.int i3))) h))))) : H_224_13 (d + 32) h i1 i2 i3 Q := by
  show mx_wp (d + 32) 224 13 [some (.ref 381), some (.int i1), some (.int i2), some (.int i3)] [] h Q
  refine wp_steps (i' := 14) (ls' := [some (.ref 381), some (.int i1), some (.int i2), some (.int i3)]) (st' := [.int i2]) (h' := h) (P := True) 1 rfl rfl trivial ?_
  refine wp_br (P := True) (c := i2 = 0) (t := 71) (st' := []) rfl rfl trivial (fun c1 => ?_) (fun c1 => ?_)
  · skip
    have H := H.1 c1
    refine wp_steps (i' := 72) (ls' := [some (.ref 381), some (.int i1), some (.int i2), some (.int i3)]) (st' := [.int i3]) (h' := h) (P := True) 1 rfl rfl trivial ?_
    exact wp_end (o := .inl (some (.int i3))) (h' := h) (P := True) rfl rfl trivial H
  · skip
    have H := H.2 c1
    refine wp_steps (i' := 18) (ls' := [some (.ref 381), some (.int i1), some (.int i2), some (.int i3)]) (st' := [.int (-1), .int (mx_i h 381 12)]) (h' := h) (P := ((mxT 381).1 = 11 ∧ mxG h) ∧ True) 3 rfl rfl ⟨⟨(congrArg Prod.fst sT_381), G⟩, trivial⟩ ?_
    refine wp_br (P := True) (c := ¬ (mx_i h 381 12) = (-1)) (t := 71) (st' := []) rfl rfl trivial (fun c2 => ?_) (fun c2 => ?_)
    · skip
      have H := H.2 c2
      refine wp_steps (i' := 72) (ls' := [some (.ref 381), some (.int i1), some (.int i2), some (.int i3)]) (st' := [.int i3]) (h' := h) (P := True) 1 rfl rfl trivial ?_
      exact wp_end (o := .inl (some (.int i3))) (h' := h) (P := True) rfl rfl trivial H
    · have c2 := Decidable.of_not_not c2
      have H := H.1 c2
      refine wp_steps (i' := 20) (ls' := [some (.ref 381), some (.int i1), some (.int i2), some (.int i3)]) (st' := [.ref 381]) (h' := h) (P := True) 1 rfl rfl trivial ?_
      obtain ⟨o3, H⟩ := H
      refine wp_call (b := false) (y' := 210) (as := [.ref 381]) (rest := []) (P := ((mxT 381).1 = mxRc 210 ∧ mxG h)) rfl (by with_unfolding_all rfl) ⟨(congrArg Prod.fst sT_381), G⟩ (Nat.le_of_ble_eq_true rfl) (sp_210b G o3 ?_)
      intro h5 p6
      show mx_wp (d + 32) 224 21 [some (.ref 381), some (.int i1), some (.int i2), some (.int i3)] [] h5 Q
      have H := H h5 p6
      have G7 : mxG h5 := mxK_G p6.1 G
      refine wp_steps (i' := 23) (ls' := [some (.ref 381), some (.int i1), some (.int i2), some (.int i3)]) (st' := [.int i1, .int i3]) (h' := h5) (P := True) 2 rfl rfl trivial ?_
      have J : ∀ (v8 : Int32) (ev8 : v8 = ((if i1 = 0 then 14 else 12) : Int32)), mx_wp (d + 32) 224 27 [some (.ref 381), some (.int i1), some (.int i2), some (.int i3)] [.int v8, .int i3] h5 Q := by
        intro v8 ev8
        have H := H v8 ev8
        refine wp_br (P := True) (c := ¬ i3 = v8) (t := 33) (st' := []) rfl rfl trivial (fun c9 => ?_) (fun c9 => ?_)
        · skip
          have H := H.2 c9
          refine wp_steps (i' := 34) (ls' := [some (.ref 381), some (.int i1), some (.int i2), some (.int i3)]) (st' := [.int i1]) (h' := h5) (P := True) 1 rfl rfl trivial ?_
          refine wp_br (P := True) (c := i1 = 0) (t := 38) (st' := []) rfl rfl trivial (fun c10 => ?_) (fun c10 => ?_)
          · skip
            have H := H.1 c10
            refine wp_steps (i' := 39) (ls' := [some (.ref 381), some (.int i1), some (.int i2), some (.int i3)]) (st' := [.ref 381]) (h' := h5) (P := True) 1 rfl rfl trivial ?_
            obtain ⟨o11, H⟩ := H
            refine wp_call (b := false) (y' := 221) (as := [.ref 381]) (rest := []) (P := ((mxT 381).1 = mxRc 221 ∧ mxG h5)) rfl (by with_unfolding_all rfl) ⟨(congrArg Prod.fst sT_381), G7⟩ (Nat.le_of_ble_eq_true rfl) (sf_221 G7 o11 ?_)
            intro h13 p14
            show mx_wp (d + 32) 224 40 [some (.ref 381), some (.int i1), some (.int i2), some (.int i3)] [] h13 Q
            have H := H h13 p14
            have G15 : mxG h13 := mxK_G p14 G7
            refine wp_steps (i' := 42) (ls' := [some (.ref 381), some (.int i1), some (.int i2), some (.int (i3 + 1))]) (st' := [.ref 381]) (h' := h13) (P := True) 2 rfl rfl trivial ?_
            obtain ⟨o16, H⟩ := H
            refine wp_call (b := false) (y' := 210) (as := [.ref 381]) (rest := []) (P := ((mxT 381).1 = mxRc 210 ∧ mxG h13)) rfl (by with_unfolding_all rfl) ⟨(congrArg Prod.fst sT_381), G15⟩ (Nat.le_of_ble_eq_true rfl) (sp_210b G15 o16 ?_)
            intro h18 p19
            show mx_wp (d + 32) 224 43 [some (.ref 381), some (.int i1), some (.int i2), some (.int (i3 + 1))] [] h18 Q
            have H := H h18 p19
            have G20 : mxG h18 := mxK_G p19.1 G15
            refine wp_steps (i' := 46) (ls' := [some (.ref 381), some (.int i1), some (.int i2), some (.int (i3 + 1))]) (st' := [.int (-1), .int (mx_i h18 381 12)]) (h' := h18) (P := ((mxT 381).1 = 11 ∧ mxG h18) ∧ True) 3 rfl rfl ⟨⟨(congrArg Prod.fst sT_381), G20⟩, trivial⟩ ?_
            refine wp_br (P := True) (c := ¬ (mx_i h18 381 12) = (-1)) (t := 52) (st' := []) rfl rfl trivial (fun c21 => ?_) (fun c21 => ?_)
            · skip
              have H := H.2 c21
              refine wp_steps (i' := 54) (ls' := [some (.ref 381), some (.int i1), some (.int 0), some (.int (i3 + 1))]) (st' := []) (h' := h18) (P := True) 2 rfl rfl trivial ?_
              refine wp_J (j := 13) (st' := []) rfl rfl ?_
              exact H 
            · have c21 := Decidable.of_not_not c21
              have H := H.1 c21
              refine wp_steps (i' := 51) (ls' := [some (.ref 381), some (.int i1), some (.int i2), some (.int (i3 + 1))]) (st' := [.int (mx_i h18 381 10), .int (mx_i h18 381 11)]) (h' := h18) (P := ((mxT 381).1 = 11 ∧ mxG h18) ∧ ((mxT 381).1 = 11 ∧ mxG h18) ∧ True) 4 rfl rfl ⟨⟨(congrArg Prod.fst sT_381), G20⟩, ⟨(congrArg Prod.fst sT_381), G20⟩, trivial⟩ ?_
              refine wp_br (P := True) (c := ¬ (mx_i h18 381 11) = (mx_i h18 381 10)) (t := 55) (st' := []) rfl rfl trivial (fun c22 => ?_) (fun c22 => ?_)
              · skip
                have H := H.2 c22
                refine wp_steps (i' := 57) (ls' := [some (.ref 381), some (.int i1), some (.int i2), some (.int (i3 + 1))]) (st' := [.int 59, .ref 381]) (h' := h18) (P := True) 2 rfl rfl trivial ?_
                obtain ⟨o23, H⟩ := H
                refine wp_call (b := false) (y' := 211) (as := [.ref 381, .int 59]) (rest := []) (P := ((mxT 381).1 = mxRc 211 ∧ mxG h18)) rfl (by with_unfolding_all rfl) ⟨(congrArg Prod.fst sT_381), G20⟩ (Nat.le_of_ble_eq_true rfl) (sp_211 G20 o23 ?_)
                intro x24 h25 p26
                show mx_wp (d + 32) 224 58 [some (.ref 381), some (.int i1), some (.int i2), some (.int (i3 + 1))] [.int x24] h25 Q
                have H := H x24 h25 p26
                have G27 : mxG h25 := mxK_G p26.1 G20
                refine wp_br (P := True) (c := x24 = 0) (t := 66) (st' := []) rfl rfl trivial (fun c28 => ?_) (fun c28 => ?_)
                · skip
                  have H := H.1 c28
                  refine wp_steps (i' := 69) (ls' := [some (.ref 381), some (.int i1), some (.int i2), some (.int (i3 + 1))]) (st' := [.int (mx_i h25 381 11), .ref 381]) (h' := h25) (P := ((mxT 381).1 = 11 ∧ mxG h25) ∧ True) 3 rfl rfl ⟨⟨(congrArg Prod.fst sT_381), G27⟩, trivial⟩ ?_
                  refine wp_call (b := false) (y' := 213) (as := [.ref 381, .int (mx_i h25 381 11)]) (rest := []) (P := ((mxT 381).1 = mxRc 213 ∧ mxG h25)) rfl (by with_unfolding_all rfl) ⟨(congrArg Prod.fst sT_381), G27⟩ (Nat.le_of_ble_eq_true rfl) (sp_213 G27 ?_)
                  show mx_wp (d + 32) 224 70 [some (.ref 381), some (.int i1), some (.int i2), some (.int (i3 + 1))] [] (W_213 h25 (mx_i h25 381 11)) Q
                  obtain ⟨h29, e30⟩ : ∃ z9, z9 = W_213 h25 (mx_i h25 381 11) := ⟨_, rfl⟩
                  rw [← e30]
                  have H := H h29 e30
                  have K32 : mxK h25 h29 := e30 ▸ KW_213
                  have G31 : mxG h29 := mxK_G K32 G27
                  refine wp_J (j := 13) (st' := []) rfl rfl ?_
                  exact H 
                · skip
                  have H := H.2 c28
                  refine wp_steps (i' := 65) (ls' := [some (.ref 381), some (.int i1), some (.int i2), some (.int (i3 + 1))]) (st' := []) (h' := mx_wi h25 381 11 ((mx_i h25 381 11) + 1)) (P := ((mxT 381).1 = 11 ∧ mxG h25) ∧ ((mxT 381).1 = 11 ∧ mxG h25) ∧ True) 6 rfl rfl ⟨⟨(congrArg Prod.fst sT_381), G27⟩, ⟨(congrArg Prod.fst sT_381), G27⟩, trivial⟩ ?_
                  obtain ⟨h33, e34⟩ : ∃ z9, z9 = mx_wi h25 381 11 ((mx_i h25 381 11) + 1) := ⟨_, rfl⟩
                  rw [← e34]
                  have H := H h33 e34
                  have G35 : mxG h33 := e34 ▸ mxG_wi G27
                  refine wp_J (j := 13) (st' := []) rfl rfl ?_
                  exact H 
              · have c22 := Decidable.of_not_not c22
                have H := H.1 c22
                refine wp_steps (i' := 54) (ls' := [some (.ref 381), some (.int i1), some (.int 0), some (.int (i3 + 1))]) (st' := []) (h' := h18) (P := True) 2 rfl rfl trivial ?_
                refine wp_J (j := 13) (st' := []) rfl rfl ?_
                exact H 
          · skip
            have H := H.2 c10
            refine wp_steps (i' := 36) (ls' := [some (.ref 381), some (.int i1), some (.int i2), some (.int i3)]) (st' := [.ref 381]) (h' := h5) (P := True) 1 rfl rfl trivial ?_
            obtain ⟨o36, o37, o38, o39, H⟩ := H
            refine wp_call (b := false) (y' := 234) (as := [.ref 381]) (rest := []) (P := ((mxT 381).1 = mxRc 234 ∧ mxG h5)) rfl (by with_unfolding_all rfl) ⟨(congrArg Prod.fst sT_381), G7⟩ (Nat.le_of_ble_eq_true rfl) (sp_234 G7 o36 o37 o38 o39 ?_)
            intro h41 p42
            show mx_wp (d + 32) 224 37 [some (.ref 381), some (.int i1), some (.int i2), some (.int i3)] [] h41 Q
            have H := H h41 p42
            have G43 : mxG h41 := mxK_G p42.1.1 G7
            refine wp_J (j := 40) (st' := []) rfl rfl ?_
            refine wp_steps (i' := 42) (ls' := [some (.ref 381), some (.int i1), some (.int i2), some (.int (i3 + 1))]) (st' := [.ref 381]) (h' := h41) (P := True) 2 rfl rfl trivial ?_
            obtain ⟨o44, H⟩ := H
            refine wp_call (b := false) (y' := 210) (as := [.ref 381]) (rest := []) (P := ((mxT 381).1 = mxRc 210 ∧ mxG h41)) rfl (by with_unfolding_all rfl) ⟨(congrArg Prod.fst sT_381), G43⟩ (Nat.le_of_ble_eq_true rfl) (sp_210b G43 o44 ?_)
            intro h46 p47
            show mx_wp (d + 32) 224 43 [some (.ref 381), some (.int i1), some (.int i2), some (.int (i3 + 1))] [] h46 Q
            have H := H h46 p47
            have G48 : mxG h46 := mxK_G p47.1 G43
            refine wp_steps (i' := 46) (ls' := [some (.ref 381), some (.int i1), some (.int i2), some (.int (i3 + 1))]) (st' := [.int (-1), .int (mx_i h46 381 12)]) (h' := h46) (P := ((mxT 381).1 = 11 ∧ mxG h46) ∧ True) 3 rfl rfl ⟨⟨(congrArg Prod.fst sT_381), G48⟩, trivial⟩ ?_
            refine wp_br (P := True) (c := ¬ (mx_i h46 381 12) = (-1)) (t := 52) (st' := []) rfl rfl trivial (fun c49 => ?_) (fun c49 => ?_)
            · skip
              have H := H.2 c49
              refine wp_steps (i' := 54) (ls' := [some (.ref 381), some (.int i1), some (.int 0), some (.int (i3 + 1))]) (st' := []) (h' := h46) (P := True) 2 rfl rfl trivial ?_
              refine wp_J (j := 13) (st' := []) rfl rfl ?_
              exact H 
            · have c49 := Decidable.of_not_not c49
              have H := H.1 c49
              refine wp_steps (i' := 51) (ls' := [some (.ref 381), some (.int i1), some (.int i2), some (.int (i3 + 1))]) (st' := [.int (mx_i h46 381 10), .int (mx_i h46 381 11)]) (h' := h46) (P := ((mxT 381).1 = 11 ∧ mxG h46) ∧ ((mxT 381).1 = 11 ∧ mxG h46) ∧ True) 4 rfl rfl ⟨⟨(congrArg Prod.fst sT_381), G48⟩, ⟨(congrArg Prod.fst sT_381), G48⟩, trivial⟩ ?_
              refine wp_br (P := True) (c := ¬ (mx_i h46 381 11) = (mx_i h46 381 10)) (t := 55) (st' := []) rfl rfl trivial (fun c50 => ?_) (fun c50 => ?_)
              · skip
                have H := H.2 c50
                refine wp_steps (i' := 57) (ls' := [some (.ref 381), some (.int i1), some (.int i2), some (.int (i3 + 1))]) (st' := [.int 59, .ref 381]) (h' := h46) (P := True) 2 rfl rfl trivial ?_
                obtain ⟨o51, H⟩ := H
                refine wp_call (b := false) (y' := 211) (as := [.ref 381, .int 59]) (rest := []) (P := ((mxT 381).1 = mxRc 211 ∧ mxG h46)) rfl (by with_unfolding_all rfl) ⟨(congrArg Prod.fst sT_381), G48⟩ (Nat.le_of_ble_eq_true rfl) (sp_211 G48 o51 ?_)
                intro x52 h53 p54
                show mx_wp (d + 32) 224 58 [some (.ref 381), some (.int i1), some (.int i2), some (.int (i3 + 1))] [.int x52] h53 Q
                have H := H x52 h53 p54
                have G55 : mxG h53 := mxK_G p54.1 G48
                refine wp_br (P := True) (c := x52 = 0) (t := 66) (st' := []) rfl rfl trivial (fun c56 => ?_) (fun c56 => ?_)
                · skip
                  have H := H.1 c56
                  refine wp_steps (i' := 69) (ls' := [some (.ref 381), some (.int i1), some (.int i2), some (.int (i3 + 1))]) (st' := [.int (mx_i h53 381 11), .ref 381]) (h' := h53) (P := ((mxT 381).1 = 11 ∧ mxG h53) ∧ True) 3 rfl rfl ⟨⟨(congrArg Prod.fst sT_381), G55⟩, trivial⟩ ?_
                  refine wp_call (b := false) (y' := 213) (as := [.ref 381, .int (mx_i h53 381 11)]) (rest := []) (P := ((mxT 381).1 = mxRc 213 ∧ mxG h53)) rfl (by with_unfolding_all rfl) ⟨(congrArg Prod.fst sT_381), G55⟩ (Nat.le_of_ble_eq_true rfl) (sp_213 G55 ?_)
                  show mx_wp (d + 32) 224 70 [some (.ref 381), some (.int i1), some (.int i2), some (.int (i3 + 1))] [] (W_213 h53 (mx_i h53 381 11)) Q
                  obtain ⟨h57, e58⟩ : ∃ z9, z9 = W_213 h53 (mx_i h53 381 11) := ⟨_, rfl⟩
                  rw [← e58]
                  have H := H h57 e58
                  have K60 : mxK h53 h57 := e58 ▸ KW_213
                  have G59 : mxG h57 := mxK_G K60 G55
                  refine wp_J (j := 13) (st' := []) rfl rfl ?_
                  exact H 
                · skip
                  have H := H.2 c56
                  refine wp_steps (i' := 65) (ls' := [some (.ref 381), some (.int i1), some (.int i2), some (.int (i3 + 1))]) (st' := []) (h' := mx_wi h53 381 11 ((mx_i h53 381 11) + 1)) (P := ((mxT 381).1 = 11 ∧ mxG h53) ∧ ((mxT 381).1 = 11 ∧ mxG h53) ∧ True) 6 rfl rfl ⟨⟨(congrArg Prod.fst sT_381), G55⟩, ⟨(congrArg Prod.fst sT_381), G55⟩, trivial⟩ ?_
                  obtain ⟨h61, e62⟩ : ∃ z9, z9 = mx_wi h53 381 11 ((mx_i h53 381 11) + 1) := ⟨_, rfl⟩
                  rw [← e62]
                  have H := H h61 e62
                  have G63 : mxG h61 := e62 ▸ mxG_wi G55
                  refine wp_J (j := 13) (st' := []) rfl rfl ?_
                  exact H 
              · have c50 := Decidable.of_not_not c50
                have H := H.1 c50
                refine wp_steps (i' := 54) (ls' := [some (.ref 381), some (.int i1), some (.int 0), some (.int (i3 + 1))]) (st' := []) (h' := h46) (P := True) 2 rfl rfl trivial ?_
                refine wp_J (j := 13) (st' := []) rfl rfl ?_
                exact H 
        · have c9 := Decidable.of_not_not c9
          have H := H.1 c9
          refine wp_steps (i' := 31) (ls' := [some (.ref 381), some (.int i1), some (.int i2), some (.int i3)]) (st' := [.int (mx_i h5 381 11), .ref 381]) (h' := h5) (P := ((mxT 381).1 = 11 ∧ mxG h5) ∧ True) 3 rfl rfl ⟨⟨(congrArg Prod.fst sT_381), G7⟩, trivial⟩ ?_
          refine wp_call (b := false) (y' := 213) (as := [.ref 381, .int (mx_i h5 381 11)]) (rest := []) (P := ((mxT 381).1 = mxRc 213 ∧ mxG h5)) rfl (by with_unfolding_all rfl) ⟨(congrArg Prod.fst sT_381), G7⟩ (Nat.le_of_ble_eq_true rfl) (sp_213 G7 ?_)
          show mx_wp (d + 32) 224 32 [some (.ref 381), some (.int i1), some (.int i2), some (.int i3)] [] (W_213 h5 (mx_i h5 381 11)) Q
          obtain ⟨h64, e65⟩ : ∃ z9, z9 = W_213 h5 (mx_i h5 381 11) := ⟨_, rfl⟩
          rw [← e65]
          have H := H h64 e65
          have K67 : mxK h5 h64 := e65 ▸ KW_213
          have G66 : mxG h64 := mxK_G K67 G7
          refine wp_J (j := 40) (st' := []) rfl rfl ?_
          refine wp_steps (i' := 42) (ls' := [some (.ref 381), some (.int i1), some (.int i2), some (.int (i3 + 1))]) (st' := [.ref 381]) (h' := h64) (P := True) 2 rfl rfl trivial ?_
          obtain ⟨o68, H⟩ := H
          refine wp_call (b := false) (y' := 210) (as := [.ref 381]) (rest := []) (P := ((mxT 381).1 = mxRc 210 ∧ mxG h64)) rfl (by with_unfolding_all rfl) ⟨(congrArg Prod.fst sT_381), G66⟩ (Nat.le_of_ble_eq_true rfl) (sp_210b G66 o68 ?_)
          intro h70 p71
          show mx_wp (d + 32) 224 43 [some (.ref 381), some (.int i1), some (.int i2), some (.int (i3 + 1))] [] h70 Q
          have H := H h70 p71
          have G72 : mxG h70 := mxK_G p71.1 G66
          refine wp_steps (i' := 46) (ls' := [some (.ref 381), some (.int i1), some (.int i2), some (.int (i3 + 1))]) (st' := [.int (-1), .int (mx_i h70 381 12)]) (h' := h70) (P := ((mxT 381).1 = 11 ∧ mxG h70) ∧ True) 3 rfl rfl ⟨⟨(congrArg Prod.fst sT_381), G72⟩, trivial⟩ ?_
          refine wp_br (P := True) (c := ¬ (mx_i h70 381 12) = (-1)) (t := 52) (st' := []) rfl rfl trivial (fun c73 => ?_) (fun c73 => ?_)
          · skip
            have H := H.2 c73
            refine wp_steps (i' := 54) (ls' := [some (.ref 381), some (.int i1), some (.int 0), some (.int (i3 + 1))]) (st' := []) (h' := h70) (P := True) 2 rfl rfl trivial ?_
            refine wp_J (j := 13) (st' := []) rfl rfl ?_
            exact H 
          · have c73 := Decidable.of_not_not c73
            have H := H.1 c73
            refine wp_steps (i' := 51) (ls' := [some (.ref 381), some (.int i1), some (.int i2), some (.int (i3 + 1))]) (st' := [.int (mx_i h70 381 10), .int (mx_i h70 381 11)]) (h' := h70) (P := ((mxT 381).1 = 11 ∧ mxG h70) ∧ ((mxT 381).1 = 11 ∧ mxG h70) ∧ True) 4 rfl rfl ⟨⟨(congrArg Prod.fst sT_381), G72⟩, ⟨(congrArg Prod.fst sT_381), G72⟩, trivial⟩ ?_
            refine wp_br (P := True) (c := ¬ (mx_i h70 381 11) = (mx_i h70 381 10)) (t := 55) (st' := []) rfl rfl trivial (fun c74 => ?_) (fun c74 => ?_)
            · skip
              have H := H.2 c74
              refine wp_steps (i' := 57) (ls' := [some (.ref 381), some (.int i1), some (.int i2), some (.int (i3 + 1))]) (st' := [.int 59, .ref 381]) (h' := h70) (P := True) 2 rfl rfl trivial ?_
              obtain ⟨o75, H⟩ := H
              refine wp_call (b := false) (y' := 211) (as := [.ref 381, .int 59]) (rest := []) (P := ((mxT 381).1 = mxRc 211 ∧ mxG h70)) rfl (by with_unfolding_all rfl) ⟨(congrArg Prod.fst sT_381), G72⟩ (Nat.le_of_ble_eq_true rfl) (sp_211 G72 o75 ?_)
              intro x76 h77 p78
              show mx_wp (d + 32) 224 58 [some (.ref 381), some (.int i1), some (.int i2), some (.int (i3 + 1))] [.int x76] h77 Q
              have H := H x76 h77 p78
              have G79 : mxG h77 := mxK_G p78.1 G72
              refine wp_br (P := True) (c := x76 = 0) (t := 66) (st' := []) rfl rfl trivial (fun c80 => ?_) (fun c80 => ?_)
              · skip
                have H := H.1 c80
                refine wp_steps (i' := 69) (ls' := [some (.ref 381), some (.int i1), some (.int i2), some (.int (i3 + 1))]) (st' := [.int (mx_i h77 381 11), .ref 381]) (h' := h77) (P := ((mxT 381).1 = 11 ∧ mxG h77) ∧ True) 3 rfl rfl ⟨⟨(congrArg Prod.fst sT_381), G79⟩, trivial⟩ ?_
                refine wp_call (b := false) (y' := 213) (as := [.ref 381, .int (mx_i h77 381 11)]) (rest := []) (P := ((mxT 381).1 = mxRc 213 ∧ mxG h77)) rfl (by with_unfolding_all rfl) ⟨(congrArg Prod.fst sT_381), G79⟩ (Nat.le_of_ble_eq_true rfl) (sp_213 G79 ?_)
                show mx_wp (d + 32) 224 70 [some (.ref 381), some (.int i1), some (.int i2), some (.int (i3 + 1))] [] (W_213 h77 (mx_i h77 381 11)) Q
                obtain ⟨h81, e82⟩ : ∃ z9, z9 = W_213 h77 (mx_i h77 381 11) := ⟨_, rfl⟩
                rw [← e82]
                have H := H h81 e82
                have K84 : mxK h77 h81 := e82 ▸ KW_213
                have G83 : mxG h81 := mxK_G K84 G79
                refine wp_J (j := 13) (st' := []) rfl rfl ?_
                exact H 
              · skip
                have H := H.2 c80
                refine wp_steps (i' := 65) (ls' := [some (.ref 381), some (.int i1), some (.int i2), some (.int (i3 + 1))]) (st' := []) (h' := mx_wi h77 381 11 ((mx_i h77 381 11) + 1)) (P := ((mxT 381).1 = 11 ∧ mxG h77) ∧ ((mxT 381).1 = 11 ∧ mxG h77) ∧ True) 6 rfl rfl ⟨⟨(congrArg Prod.fst sT_381), G79⟩, ⟨(congrArg Prod.fst sT_381), G79⟩, trivial⟩ ?_
                obtain ⟨h85, e86⟩ : ∃ z9, z9 = mx_wi h77 381 11 ((mx_i h77 381 11) + 1) := ⟨_, rfl⟩
                rw [← e86]
                have H := H h85 e86
                have G87 : mxG h85 := e86 ▸ mxG_wi G79
                refine wp_J (j := 13) (st' := []) rfl rfl ?_
                exact H 
            · have c74 := Decidable.of_not_not c74
              have H := H.1 c74
              refine wp_steps (i' := 54) (ls' := [some (.ref 381), some (.int i1), some (.int 0), some (.int (i3 + 1))]) (st' := []) (h' := h70) (P := True) 2 rfl rfl trivial ?_
              refine wp_J (j := 13) (st' := []) rfl rfl ?_
              exact H 
      refine wp_br (P := True) (c := i1 = 0) (t := 26) (st' := [.int i3]) rfl rfl trivial (fun c88 => ?_) (fun c88 => ?_)
      · skip
        refine wp_steps (i' := 27) (ls' := [some (.ref 381), some (.int i1), some (.int i2), some (.int i3)]) (st' := [.int 14, .int i3]) (h' := h5) (P := True) 1 rfl rfl trivial ?_
        exact J _ (by rw [if_pos c88])
      · skip
        refine wp_steps (i' := 25) (ls' := [some (.ref 381), some (.int i1), some (.int i2), some (.int i3)]) (st' := [.int 12, .int i3]) (h' := h5) (P := True) 1 rfl rfl trivial ?_
        refine wp_J (j := 27) (st' := [.int 12, .int i3]) rfl rfl ?_
        exact J _ (by rw [if_neg c88])
