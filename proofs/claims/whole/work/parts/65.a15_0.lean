/-! 230: StoneBacksModel.plain()Z -/
set_option maxRecDepth 8000 in
theorem tr_230_0 {d : Nat} {h : mxH} {Q : mxO → mxH → Prop}  (G : mxG h)  (H : (okT h ∧ (30 ≤ 64 ∧ 64 < 82 ∧ 64 % 2 = 0) ∧ (∀ (x3 : Int32) (h4 : mxH), p212 64 h x3 h4 → ((x3 = 0 → (okT h4 ∧ (30 ≤ 66 ∧ 66 < 82 ∧ 66 % 2 = 0) ∧ (∀ (x10 : Int32) (h11 : mxH), p212 66 h4 x10 h11 → ((x10 = 0 → (okT h11 ∧ (∀ (x16 : Int32) (h17 : mxH), p229 h11 x16 h17 → (((mx_i h17 381 12) = (-1) → (okT h17 ∧ (∀ (x22 : Int32) (h23 : mxH), p211 (60 : Int32) h17 x22 h23 → ((x22 = 0 → (okT h23 ∧ (∀ (x40 : Int32) (h41 : mxH), p211 (62 : Int32) h23 x40 h41 → ((x40 = 0 → (∀ h57, h57 = W_213 h41 (mx_i h41 381 11) → Q (.inl (some (.int 0))) h57)) ∧ (¬ x40 = 0 → (∀ h45, h45 = mx_wi h41 381 11 ((mx_i h41 381 11) + 1) → (okT h45 ∧ (∀ (x49 : Int32) (h50 : mxH), p229 h45 x49 h50 → (∀ (v53 : Int32), v53 = ((if x22 = 0 then (if x49 < x16 then 1 else 0) else (if x16 < x49 then 1 else 0)) : Int32) → Q (.inl (some (.int v53))) h50))))))))) ∧ (¬ x22 = 0 → (∀ h27, h27 = mx_wi h23 381 11 ((mx_i h23 381 11) + 1) → (okT h27 ∧ (∀ (x31 : Int32) (h32 : mxH), p229 h27 x31 h32 → (∀ (v35 : Int32), v35 = ((if x22 = 0 then (if x31 < x16 then 1 else 0) else (if x16 < x31 then 1 else 0)) : Int32) → Q (.inl (some (.int v35))) h32))))))))) ∧ (¬ (mx_i h17 381 12) = (-1) → Q (.inl (some (.int 0))) h17))))) ∧ (¬ x10 = 0 → (((mx_i h11 381 16) = 0 ∨ (mx_i h11 381 16) = 1) ∧ Q (.inl (some (.int (mx_i h11 381 16)))) h11)))))) ∧ (¬ x3 = 0 → (((mx_i h4 381 15) = 0 ∨ (mx_i h4 381 15) = 1) ∧ Q (.inl (some (.int (mx_i h4 381 15)))) h4)))))) : mx_wp (d + 7) 230 0 (mx_fr 230 [.ref 381]) [] h Q := by
  show mx_wp (d + 7) 230 0 [some (.ref 381), none, none, none] [] h Q
  refine wp_steps (i' := 2) (ls' := [some (.ref 381), none, none, none]) (st' := [.ref 64, .ref 381]) (h' := h) (P := True) 2 rfl rfl trivial ?_
  obtain ⟨o1, o2, H⟩ := H
  refine wp_call (b := false) (y' := 212) (as := [.ref 381, .ref 64]) (rest := []) (P := ((mxT 381).1 = mxRc 212 ∧ mxG h)) rfl (by with_unfolding_all rfl) ⟨(congrArg Prod.fst sT_381), G⟩ (Nat.le_of_ble_eq_true rfl) (sp_212 G o1 o2 ?_)
  intro x3 h4 p5
  show mx_wp (d + 7) 230 3 [some (.ref 381), none, none, none] [.int x3] h4 Q
  have H := H x3 h4 p5
  have G6 : mxG h4 := mxK_G p5.1 G
  refine wp_br (P := True) (c := x3 = 0) (t := 7) (st' := []) rfl rfl trivial (fun c7 => ?_) (fun c7 => ?_)
  · skip
    have H := H.1 c7
    refine wp_steps (i' := 9) (ls' := [some (.ref 381), none, none, none]) (st' := [.ref 66, .ref 381]) (h' := h4) (P := True) 2 rfl rfl trivial ?_
    obtain ⟨o8, o9, H⟩ := H
    refine wp_call (b := false) (y' := 212) (as := [.ref 381, .ref 66]) (rest := []) (P := ((mxT 381).1 = mxRc 212 ∧ mxG h4)) rfl (by with_unfolding_all rfl) ⟨(congrArg Prod.fst sT_381), G6⟩ (Nat.le_of_ble_eq_true rfl) (sp_212 G6 o8 o9 ?_)
    intro x10 h11 p12
    show mx_wp (d + 7) 230 10 [some (.ref 381), none, none, none] [.int x10] h11 Q
    have H := H x10 h11 p12
    have G13 : mxG h11 := mxK_G p12.1 G6
    refine wp_br (P := True) (c := x10 = 0) (t := 14) (st' := []) rfl rfl trivial (fun c14 => ?_) (fun c14 => ?_)
    · skip
      have H := H.1 c14
      refine wp_steps (i' := 15) (ls' := [some (.ref 381), none, none, none]) (st' := [.ref 381]) (h' := h11) (P := True) 1 rfl rfl trivial ?_
      obtain ⟨o15, H⟩ := H
      refine wp_call (b := false) (y' := 229) (as := [.ref 381]) (rest := []) (P := ((mxT 381).1 = mxRc 229 ∧ mxG h11)) rfl (by with_unfolding_all rfl) ⟨(congrArg Prod.fst sT_381), G13⟩ (Nat.le_of_ble_eq_true rfl) (sp_229 G13 o15 ?_)
      intro x16 h17 p18
      show mx_wp (d + 7) 230 16 [some (.ref 381), none, none, none] [.int x16] h17 Q
      have H := H x16 h17 p18
      have G19 : mxG h17 := mxK_G p18.1 G13
      refine wp_steps (i' := 20) (ls' := [some (.ref 381), some (.int x16), none, none]) (st' := [.int (-1), .int (mx_i h17 381 12)]) (h' := h17) (P := ((mxT 381).1 = 11 ∧ mxG h17) ∧ True) 4 rfl rfl ⟨⟨(congrArg Prod.fst sT_381), G19⟩, trivial⟩ ?_
      refine wp_br (P := True) (c := (mx_i h17 381 12) = (-1)) (t := 23) (st' := []) rfl rfl trivial (fun c20 => ?_) (fun c20 => ?_)
      · skip
        have H := H.1 c20
        refine wp_steps (i' := 25) (ls' := [some (.ref 381), some (.int x16), none, none]) (st' := [.int 60, .ref 381]) (h' := h17) (P := True) 2 rfl rfl trivial ?_
        obtain ⟨o21, H⟩ := H
        refine wp_call (b := false) (y' := 211) (as := [.ref 381, .int 60]) (rest := []) (P := ((mxT 381).1 = mxRc 211 ∧ mxG h17)) rfl (by with_unfolding_all rfl) ⟨(congrArg Prod.fst sT_381), G19⟩ (Nat.le_of_ble_eq_true rfl) (sp_211 G19 o21 ?_)
        intro x22 h23 p24
        show mx_wp (d + 7) 230 26 [some (.ref 381), some (.int x16), none, none] [.int x22] h23 Q
        have H := H x22 h23 p24
        have G25 : mxG h23 := mxK_G p24.1 G19
        refine wp_steps (i' := 28) (ls' := [some (.ref 381), some (.int x16), some (.int x22), none]) (st' := [.int x22]) (h' := h23) (P := True) 2 rfl rfl trivial ?_
        refine wp_br (P := True) (c := ¬ x22 = 0) (t := 39) (st' := []) rfl rfl trivial (fun c26 => ?_) (fun c26 => ?_)
        · skip
          have H := H.2 c26
          refine wp_steps (i' := 45) (ls' := [some (.ref 381), some (.int x16), some (.int x22), none]) (st' := []) (h' := mx_wi h23 381 11 ((mx_i h23 381 11) + 1)) (P := ((mxT 381).1 = 11 ∧ mxG h23) ∧ ((mxT 381).1 = 11 ∧ mxG h23) ∧ True) 6 rfl rfl ⟨⟨(congrArg Prod.fst sT_381), G25⟩, ⟨(congrArg Prod.fst sT_381), G25⟩, trivial⟩ ?_
          obtain ⟨h27, e28⟩ : ∃ z9, z9 = mx_wi h23 381 11 ((mx_i h23 381 11) + 1) := ⟨_, rfl⟩
          rw [← e28]
          have H := H h27 e28
          have G29 : mxG h27 := e28 ▸ mxG_wi G25
          refine wp_steps (i' := 46) (ls' := [some (.ref 381), some (.int x16), some (.int x22), none]) (st' := [.ref 381]) (h' := h27) (P := True) 1 rfl rfl trivial ?_
          obtain ⟨o30, H⟩ := H
          refine wp_call (b := false) (y' := 229) (as := [.ref 381]) (rest := []) (P := ((mxT 381).1 = mxRc 229 ∧ mxG h27)) rfl (by with_unfolding_all rfl) ⟨(congrArg Prod.fst sT_381), G29⟩ (Nat.le_of_ble_eq_true rfl) (sp_229 G29 o30 ?_)
          intro x31 h32 p33
          show mx_wp (d + 7) 230 47 [some (.ref 381), some (.int x16), some (.int x22), none] [.int x31] h32 Q
          have H := H x31 h32 p33
          have G34 : mxG h32 := mxK_G p33.1 G29
          refine wp_steps (i' := 49) (ls' := [some (.ref 381), some (.int x16), some (.int x22), some (.int x31)]) (st' := [.int x22]) (h' := h32) (P := True) 2 rfl rfl trivial ?_
          have J : ∀ (v35 : Int32) (ev35 : v35 = ((if x22 = 0 then (if x31 < x16 then 1 else 0) else (if x16 < x31 then 1 else 0)) : Int32)), mx_wp (d + 7) 230 63 [some (.ref 381), some (.int x16), some (.int x22), some (.int x31)] [.int v35] h32 Q := by
            intro v35 ev35
            have H := H v35 ev35
            exact wp_end (o := .inl (some (.int v35))) (h' := h32) (P := (v35 = 0 ∨ v35 = 1)) rfl rfl (b01 ev35 (by repeat' (first | exact Or.inl rfl | exact Or.inr rfl | split))) H
          refine wp_br (P := True) (c := x22 = 0) (t := 57) (st' := []) rfl rfl trivial (fun c36 => ?_) (fun c36 => ?_)
          · skip
            refine wp_steps (i' := 59) (ls' := [some (.ref 381), some (.int x16), some (.int x22), some (.int x31)]) (st' := [.int x31, .int x16]) (h' := h32) (P := True) 2 rfl rfl trivial ?_
            refine wp_br (P := True) (c := x16 ≤ x31) (t := 62) (st' := []) rfl rfl trivial (fun c37 => ?_) (fun c37 => ?_)
            · have c37 := Int32.not_lt.mpr c37
              refine wp_steps (i' := 63) (ls' := [some (.ref 381), some (.int x16), some (.int x22), some (.int x31)]) (st' := [.int 0]) (h' := h32) (P := True) 1 rfl rfl trivial ?_
              exact J _ (by rw [if_pos c36, if_neg c37])
            · have c37 := Int32.not_le.mp c37
              refine wp_steps (i' := 61) (ls' := [some (.ref 381), some (.int x16), some (.int x22), some (.int x31)]) (st' := [.int 1]) (h' := h32) (P := True) 1 rfl rfl trivial ?_
              refine wp_J (j := 63) (st' := [.int 1]) rfl rfl ?_
              exact J _ (by rw [if_pos c36, if_pos c37])
          · skip
            refine wp_steps (i' := 52) (ls' := [some (.ref 381), some (.int x16), some (.int x22), some (.int x31)]) (st' := [.int x31, .int x16]) (h' := h32) (P := True) 2 rfl rfl trivial ?_
            refine wp_br (P := True) (c := x31 ≤ x16) (t := 55) (st' := []) rfl rfl trivial (fun c38 => ?_) (fun c38 => ?_)
            · have c38 := Int32.not_lt.mpr c38
              refine wp_steps (i' := 56) (ls' := [some (.ref 381), some (.int x16), some (.int x22), some (.int x31)]) (st' := [.int 0]) (h' := h32) (P := True) 1 rfl rfl trivial ?_
              refine wp_J (j := 63) (st' := [.int 0]) rfl rfl ?_
              exact J _ (by rw [if_neg c36, if_neg c38])
            · have c38 := Int32.not_le.mp c38
              refine wp_steps (i' := 54) (ls' := [some (.ref 381), some (.int x16), some (.int x22), some (.int x31)]) (st' := [.int 1]) (h' := h32) (P := True) 1 rfl rfl trivial ?_
              refine wp_J (j := 63) (st' := [.int 1]) rfl rfl ?_
              exact J _ (by rw [if_neg c36, if_pos c38])
        · have c26 := Decidable.of_not_not c26
          have H := H.1 c26
          refine wp_steps (i' := 31) (ls' := [some (.ref 381), some (.int x16), some (.int x22), none]) (st' := [.int 62, .ref 381]) (h' := h23) (P := True) 2 rfl rfl trivial ?_
          obtain ⟨o39, H⟩ := H
          refine wp_call (b := false) (y' := 211) (as := [.ref 381, .int 62]) (rest := []) (P := ((mxT 381).1 = mxRc 211 ∧ mxG h23)) rfl (by with_unfolding_all rfl) ⟨(congrArg Prod.fst sT_381), G25⟩ (Nat.le_of_ble_eq_true rfl) (sp_211 G25 o39 ?_)
          intro x40 h41 p42
          show mx_wp (d + 7) 230 32 [some (.ref 381), some (.int x16), some (.int x22), none] [.int x40] h41 Q
          have H := H x40 h41 p42
          have G43 : mxG h41 := mxK_G p42.1 G25
          refine wp_br (P := True) (c := ¬ x40 = 0) (t := 39) (st' := []) rfl rfl trivial (fun c44 => ?_) (fun c44 => ?_)
          · skip
            have H := H.2 c44
            refine wp_steps (i' := 45) (ls' := [some (.ref 381), some (.int x16), some (.int x22), none]) (st' := []) (h' := mx_wi h41 381 11 ((mx_i h41 381 11) + 1)) (P := ((mxT 381).1 = 11 ∧ mxG h41) ∧ ((mxT 381).1 = 11 ∧ mxG h41) ∧ True) 6 rfl rfl ⟨⟨(congrArg Prod.fst sT_381), G43⟩, ⟨(congrArg Prod.fst sT_381), G43⟩, trivial⟩ ?_
            obtain ⟨h45, e46⟩ : ∃ z9, z9 = mx_wi h41 381 11 ((mx_i h41 381 11) + 1) := ⟨_, rfl⟩
            rw [← e46]
            have H := H h45 e46
            have G47 : mxG h45 := e46 ▸ mxG_wi G43
            refine wp_steps (i' := 46) (ls' := [some (.ref 381), some (.int x16), some (.int x22), none]) (st' := [.ref 381]) (h' := h45) (P := True) 1 rfl rfl trivial ?_
            obtain ⟨o48, H⟩ := H
            refine wp_call (b := false) (y' := 229) (as := [.ref 381]) (rest := []) (P := ((mxT 381).1 = mxRc 229 ∧ mxG h45)) rfl (by with_unfolding_all rfl) ⟨(congrArg Prod.fst sT_381), G47⟩ (Nat.le_of_ble_eq_true rfl) (sp_229 G47 o48 ?_)
            intro x49 h50 p51
            show mx_wp (d + 7) 230 47 [some (.ref 381), some (.int x16), some (.int x22), none] [.int x49] h50 Q
            have H := H x49 h50 p51
            have G52 : mxG h50 := mxK_G p51.1 G47
            refine wp_steps (i' := 49) (ls' := [some (.ref 381), some (.int x16), some (.int x22), some (.int x49)]) (st' := [.int x22]) (h' := h50) (P := True) 2 rfl rfl trivial ?_
            have J : ∀ (v53 : Int32) (ev53 : v53 = ((if x22 = 0 then (if x49 < x16 then 1 else 0) else (if x16 < x49 then 1 else 0)) : Int32)), mx_wp (d + 7) 230 63 [some (.ref 381), some (.int x16), some (.int x22), some (.int x49)] [.int v53] h50 Q := by
              intro v53 ev53
              have H := H v53 ev53
              exact wp_end (o := .inl (some (.int v53))) (h' := h50) (P := (v53 = 0 ∨ v53 = 1)) rfl rfl (b01 ev53 (by repeat' (first | exact Or.inl rfl | exact Or.inr rfl | split))) H
            refine wp_br (P := True) (c := x22 = 0) (t := 57) (st' := []) rfl rfl trivial (fun c54 => ?_) (fun c54 => ?_)
            · skip
              refine wp_steps (i' := 59) (ls' := [some (.ref 381), some (.int x16), some (.int x22), some (.int x49)]) (st' := [.int x49, .int x16]) (h' := h50) (P := True) 2 rfl rfl trivial ?_
              refine wp_br (P := True) (c := x16 ≤ x49) (t := 62) (st' := []) rfl rfl trivial (fun c55 => ?_) (fun c55 => ?_)
              · have c55 := Int32.not_lt.mpr c55
                refine wp_steps (i' := 63) (ls' := [some (.ref 381), some (.int x16), some (.int x22), some (.int x49)]) (st' := [.int 0]) (h' := h50) (P := True) 1 rfl rfl trivial ?_
                exact J _ (by rw [if_pos c54, if_neg c55])
              · have c55 := Int32.not_le.mp c55
                refine wp_steps (i' := 61) (ls' := [some (.ref 381), some (.int x16), some (.int x22), some (.int x49)]) (st' := [.int 1]) (h' := h50) (P := True) 1 rfl rfl trivial ?_
                refine wp_J (j := 63) (st' := [.int 1]) rfl rfl ?_
                exact J _ (by rw [if_pos c54, if_pos c55])
            · skip
              refine wp_steps (i' := 52) (ls' := [some (.ref 381), some (.int x16), some (.int x22), some (.int x49)]) (st' := [.int x49, .int x16]) (h' := h50) (P := True) 2 rfl rfl trivial ?_
              refine wp_br (P := True) (c := x49 ≤ x16) (t := 55) (st' := []) rfl rfl trivial (fun c56 => ?_) (fun c56 => ?_)
              · have c56 := Int32.not_lt.mpr c56
                refine wp_steps (i' := 56) (ls' := [some (.ref 381), some (.int x16), some (.int x22), some (.int x49)]) (st' := [.int 0]) (h' := h50) (P := True) 1 rfl rfl trivial ?_
                refine wp_J (j := 63) (st' := [.int 0]) rfl rfl ?_
                exact J _ (by rw [if_neg c54, if_neg c56])
              · have c56 := Int32.not_le.mp c56
                refine wp_steps (i' := 54) (ls' := [some (.ref 381), some (.int x16), some (.int x22), some (.int x49)]) (st' := [.int 1]) (h' := h50) (P := True) 1 rfl rfl trivial ?_
                refine wp_J (j := 63) (st' := [.int 1]) rfl rfl ?_
                exact J _ (by rw [if_neg c54, if_pos c56])
          · have c44 := Decidable.of_not_not c44
            have H := H.1 c44
            refine wp_steps (i' := 36) (ls' := [some (.ref 381), some (.int x16), some (.int x22), none]) (st' := [.int (mx_i h41 381 11), .ref 381]) (h' := h41) (P := ((mxT 381).1 = 11 ∧ mxG h41) ∧ True) 3 rfl rfl ⟨⟨(congrArg Prod.fst sT_381), G43⟩, trivial⟩ ?_
            refine wp_call (b := false) (y' := 213) (as := [.ref 381, .int (mx_i h41 381 11)]) (rest := []) (P := ((mxT 381).1 = mxRc 213 ∧ mxG h41)) rfl (by with_unfolding_all rfl) ⟨(congrArg Prod.fst sT_381), G43⟩ (Nat.le_of_ble_eq_true rfl) (sp_213 G43 ?_)
            show mx_wp (d + 7) 230 37 [some (.ref 381), some (.int x16), some (.int x22), none] [] (W_213 h41 (mx_i h41 381 11)) Q
            obtain ⟨h57, e58⟩ : ∃ z9, z9 = W_213 h41 (mx_i h41 381 11) := ⟨_, rfl⟩
            rw [← e58]
            have H := H h57 e58
            have K60 : mxK h41 h57 := e58 ▸ KW_213
            have G59 : mxG h57 := mxK_G K60 G43
            refine wp_steps (i' := 38) (ls' := [some (.ref 381), some (.int x16), some (.int x22), none]) (st' := [.int 0]) (h' := h57) (P := True) 1 rfl rfl trivial ?_
            exact wp_end (o := .inl (some (.int 0))) (h' := h57) (P := ((0 : Int32) = 0 ∨ (0 : Int32) = 1)) rfl rfl (Or.inl rfl) H
      · skip
        have H := H.2 c20
        refine wp_steps (i' := 22) (ls' := [some (.ref 381), some (.int x16), none, none]) (st' := [.int 0]) (h' := h17) (P := True) 1 rfl rfl trivial ?_
        exact wp_end (o := .inl (some (.int 0))) (h' := h17) (P := ((0 : Int32) = 0 ∨ (0 : Int32) = 1)) rfl rfl (Or.inl rfl) H
    · skip
      have H := H.2 c14
      refine wp_steps (i' := 13) (ls' := [some (.ref 381), none, none, none]) (st' := [.int (mx_i h11 381 16)]) (h' := h11) (P := ((mxT 381).1 = 11 ∧ mxG h11) ∧ True) 2 rfl rfl ⟨⟨(congrArg Prod.fst sT_381), G13⟩, trivial⟩ ?_
      obtain ⟨o61, H⟩ := H
      exact wp_end (o := .inl (some (.int (mx_i h11 381 16)))) (h' := h11) (P := ((mx_i h11 381 16) = 0 ∨ (mx_i h11 381 16) = 1)) rfl rfl o61 H
  · skip
    have H := H.2 c7
    refine wp_steps (i' := 6) (ls' := [some (.ref 381), none, none, none]) (st' := [.int (mx_i h4 381 15)]) (h' := h4) (P := ((mxT 381).1 = 11 ∧ mxG h4) ∧ True) 2 rfl rfl ⟨⟨(congrArg Prod.fst sT_381), G6⟩, trivial⟩ ?_
    obtain ⟨o62, H⟩ := H
    exact wp_end (o := .inl (some (.int (mx_i h4 381 15)))) (h' := h4) (P := ((mx_i h4 381 15) = 0 ∨ (mx_i h4 381 15) = 1)) rfl rfl o62 H
