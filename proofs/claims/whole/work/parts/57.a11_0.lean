/-! 33: StoneBacks$LawText.readCondition(LStoneBacks$Tape;LStoneBacks$Law;)Z -/
def H_33_11 (d : Nat) (h : mxH) (b : Nat) (i3 : Int32) (Q : mxO → mxH → Prop) : Prop := mx_wp d 33 11 [some (.ref 107), some (.ref 101), some (.ref b), some (.int i3)] [] h Q
set_option maxRecDepth 8000 in
theorem tr_33_0 {d : Nat} {h : mxH} {Q : mxO → mxH → Prop} {b : Nat} (G : mxG h) (hVb : (mxT b).1 = 3) (H : (∀ h1, h1 = mx_wi h 107 1 0 → (∀ h4, h4 = mx_wi h1 107 2 0 → (∀ h7, h7 = mx_wi h4 107 3 0 → H_33_11 (d + 4) h7 b 0 Q)))) : mx_wp (d + 4) 33 0 (mx_fr 33 [.ref 107, .ref 101, .ref b]) [] h Q := by
  show mx_wp (d + 4) 33 0 [some (.ref 107), some (.ref 101), some (.ref b), none] [] h Q
  refine wp_steps (i' := 3) (ls' := [some (.ref 107), some (.ref 101), some (.ref b), none]) (st' := []) (h' := mx_wi h 107 1 0) (P := ((mxT 107).1 = 4 ∧ mxG h) ∧ True) 3 rfl rfl ⟨⟨(congrArg Prod.fst sT_107), G⟩, trivial⟩ ?_
  obtain ⟨h1, e2⟩ : ∃ z9, z9 = mx_wi h 107 1 0 := ⟨_, rfl⟩
  rw [← e2]
  have H := H h1 e2
  have G3 : mxG h1 := e2 ▸ mxG_wi G
  refine wp_steps (i' := 6) (ls' := [some (.ref 107), some (.ref 101), some (.ref b), none]) (st' := []) (h' := mx_wi h1 107 2 0) (P := ((mxT 107).1 = 4 ∧ mxG h1) ∧ True) 3 rfl rfl ⟨⟨(congrArg Prod.fst sT_107), G3⟩, trivial⟩ ?_
  obtain ⟨h4, e5⟩ : ∃ z9, z9 = mx_wi h1 107 2 0 := ⟨_, rfl⟩
  rw [← e5]
  have H := H h4 e5
  have G6 : mxG h4 := e5 ▸ mxG_wi G3
  refine wp_steps (i' := 9) (ls' := [some (.ref 107), some (.ref 101), some (.ref b), none]) (st' := []) (h' := mx_wi h4 107 3 0) (P := ((mxT 107).1 = 4 ∧ mxG h4) ∧ True) 3 rfl rfl ⟨⟨(congrArg Prod.fst sT_107), G6⟩, trivial⟩ ?_
  obtain ⟨h7, e8⟩ : ∃ z9, z9 = mx_wi h4 107 3 0 := ⟨_, rfl⟩
  rw [← e8]
  have H := H h7 e8
  have G9 : mxG h7 := e8 ▸ mxG_wi G6
  refine wp_steps (i' := 11) (ls' := [some (.ref 107), some (.ref 101), some (.ref b), some (.int 0)]) (st' := []) (h' := h7) (P := True) 2 rfl rfl trivial ?_
  exact H 
set_option maxRecDepth 8000 in
theorem tr_33_11 {d : Nat} {h : mxH} {Q : mxO → mxH → Prop} {b : Nat} {i3 : Int32} (G : mxG h) (hVb : (mxT b).1 = 3) (H : ((i3 < 400 → ((∃ b a, 150 < b ∧ atS h b a) ∧ (∀ (x3 : Int32) (h4 : mxH), p34 h x3 h4 → ((x3 = 0 → Q (.inl (some (.int 0))) h4) ∧ (¬ x3 = 0 → ((∃ a, atC h4 b a) ∧ (∀ (x9 : Int32) (h10 : mxH), p35 b h4 x9 h10 → ((x9 = 0 → Q (.inl (some (.int 0))) h10) ∧ (¬ x9 = 0 → ((∃ a, atS h10 b a) ∧ (∀ (h16 : mxH), p39 b h10 h16 → ((∃ a, atS h16 b a ∧ nN a.2.2.2.1) ∧ (∀ (h21 : mxH), p41 b h16 h21 → (okC h21 ∧ (3 ≤ 18 ∧ 18 < 29) ∧ (∀ (x26 : Int32) (h27 : mxH), p96 18 h21 x26 h27 → ((x26 = 0 → (okC h27 ∧ (3 ≤ 17 ∧ 17 < 29) ∧ (∀ (x33 : Int32) (h34 : mxH), p96 17 h27 x33 h34 → ((x33 = 0 → ((∃ a, atS h34 b a) ∧ (∀ (h40 : mxH), p40 b (1014 : Int32) h34 h40 → (∀ (v43 : Int32), v43 = ((if (mx_i h40 107 3) = 0 then 1 else 0) : Int32) → Q (.inl (some (.int v43))) h40)))) ∧ (¬ x33 = 0 → ((∃ a, atS h34 b a) ∧ (∀ (h47 : mxH), p40 b (1014 : Int32) h34 h47 → (cB (mx_i h47 107 1) 63 ∧ (∀ (h52 : mxH), p37 (1014 : Int32) h47 h52 → H_33_11 (d + 4) h52 b (i3 + 1) Q))))))))) ∧ (¬ x26 = 0 → ((∃ a, atS h27 b a) ∧ (∀ (h57 : mxH), p40 b (1013 : Int32) h27 h57 → (cB (mx_i h57 107 1) 63 ∧ (∀ (h62 : mxH), p37 (1013 : Int32) h57 h62 → H_33_11 (d + 4) h62 b (i3 + 1) Q))))))))))))))))))))) ∧ (¬ i3 < 400 → Q (.inl (some (.int 0))) h))) : H_33_11 (d + 4) h b i3 Q := by
  show mx_wp (d + 4) 33 11 [some (.ref 107), some (.ref 101), some (.ref b), some (.int i3)] [] h Q
  refine wp_steps (i' := 13) (ls' := [some (.ref 107), some (.ref 101), some (.ref b), some (.int i3)]) (st' := [.int 400, .int i3]) (h' := h) (P := True) 2 rfl rfl trivial ?_
  refine wp_br (P := True) (c := 400 ≤ i3) (t := 69) (st' := []) rfl rfl trivial (fun c1 => ?_) (fun c1 => ?_)
  · have c1 := Int32.not_lt.mpr c1
    have H := H.2 c1
    refine wp_steps (i' := 70) (ls' := [some (.ref 107), some (.ref 101), some (.ref b), some (.int i3)]) (st' := [.int 0]) (h' := h) (P := True) 1 rfl rfl trivial ?_
    exact wp_end (o := .inl (some (.int 0))) (h' := h) (P := ((0 : Int32) = 0 ∨ (0 : Int32) = 1)) rfl rfl (Or.inl rfl) H
  · have c1 := Int32.not_le.mp c1
    have H := H.1 c1
    refine wp_steps (i' := 16) (ls' := [some (.ref 107), some (.ref 101), some (.ref b), some (.int i3)]) (st' := [.ref 101, .ref 107]) (h' := h) (P := True) 2 rfl rfl trivial ?_
    obtain ⟨o2, H⟩ := H
    refine wp_call (b := false) (y' := 34) (as := [.ref 107, .ref 101]) (rest := []) (P := ((mxT 107).1 = mxRc 34 ∧ mxG h)) rfl (by with_unfolding_all rfl) ⟨(congrArg Prod.fst sT_107), G⟩ (Nat.le_of_ble_eq_true rfl) (spm_34 G o2 ?_)
    intro x3 h4 p5
    show mx_wp (d + 4) 33 17 [some (.ref 107), some (.ref 101), some (.ref b), some (.int i3)] [.int x3] h4 Q
    have H := H x3 h4 p5
    have G6 : mxG h4 := mxU_G p5.1 G
    refine wp_br (P := True) (c := x3 = 0) (t := 23) (st' := []) rfl rfl trivial (fun c7 => ?_) (fun c7 => ?_)
    · skip
      have H := H.1 c7
      refine wp_steps (i' := 24) (ls' := [some (.ref 107), some (.ref 101), some (.ref b), some (.int i3)]) (st' := [.int 0]) (h' := h4) (P := True) 1 rfl rfl trivial ?_
      exact wp_end (o := .inl (some (.int 0))) (h' := h4) (P := ((0 : Int32) = 0 ∨ (0 : Int32) = 1)) rfl rfl (Or.inl rfl) H
    · skip
      have H := H.2 c7
      refine wp_steps (i' := 21) (ls' := [some (.ref 107), some (.ref 101), some (.ref b), some (.int i3)]) (st' := [.ref b, .ref 101, .ref 107]) (h' := h4) (P := True) 3 rfl rfl trivial ?_
      obtain ⟨o8, H⟩ := H
      refine wp_call (b := false) (y' := 35) (as := [.ref 107, .ref 101, .ref b]) (rest := []) (P := ((mxT 107).1 = mxRc 35 ∧ mxG h4)) rfl (by with_unfolding_all rfl) ⟨(congrArg Prod.fst sT_107), G6⟩ (Nat.le_of_ble_eq_true rfl) (sp_35 G6 hVb o8 ?_)
      intro x9 h10 p11
      show mx_wp (d + 4) 33 22 [some (.ref 107), some (.ref 101), some (.ref b), some (.int i3)] [.int x9] h10 Q
      have H := H x9 h10 p11
      have G12 : mxG h10 := mxU_G p11.1.1 G6
      refine wp_br (P := True) (c := ¬ x9 = 0) (t := 25) (st' := []) rfl rfl trivial (fun c13 => ?_) (fun c13 => ?_)
      · skip
        have H := H.2 c13
        refine wp_steps (i' := 27) (ls' := [some (.ref 107), some (.ref 101), some (.ref b), some (.int i3)]) (st' := [.ref b, .ref 107]) (h' := h10) (P := True) 2 rfl rfl trivial ?_
        obtain ⟨o14, H⟩ := H
        refine wp_call (b := false) (y' := 39) (as := [.ref 107, .ref b]) (rest := []) (P := ((mxT 107).1 = mxRc 39 ∧ mxG h10)) rfl (by with_unfolding_all rfl) ⟨(congrArg Prod.fst sT_107), G12⟩ (Nat.le_of_ble_eq_true rfl) (spm_39 G12 hVb o14 ?_)
        intro h16 p17
        show mx_wp (d + 4) 33 28 [some (.ref 107), some (.ref 101), some (.ref b), some (.int i3)] [] h16 Q
        have H := H h16 p17
        have G18 : mxG h16 := mxU_G p17.1.1 G12
        refine wp_steps (i' := 31) (ls' := [some (.ref 107), some (.ref 101), some (.ref b), some (.int i3)]) (st' := [.ref b, .ref 101, .ref 107]) (h' := h16) (P := True) 3 rfl rfl trivial ?_
        obtain ⟨o19, H⟩ := H
        refine wp_call (b := false) (y' := 41) (as := [.ref 107, .ref 101, .ref b]) (rest := []) (P := ((mxT 107).1 = mxRc 41 ∧ mxG h16)) rfl (by with_unfolding_all rfl) ⟨(congrArg Prod.fst sT_107), G18⟩ (Nat.le_of_ble_eq_true rfl) (sp_41 G18 hVb o19 ?_)
        intro h21 p22
        show mx_wp (d + 4) 33 32 [some (.ref 107), some (.ref 101), some (.ref b), some (.int i3)] [] h21 Q
        have H := H h21 p22
        have G23 : mxG h21 := mxU_G p22.1.1 G18
        refine wp_steps (i' := 34) (ls' := [some (.ref 107), some (.ref 101), some (.ref b), some (.int i3)]) (st' := [.ref 18, .ref 101]) (h' := h21) (P := True) 2 rfl rfl trivial ?_
        obtain ⟨o24, o25, H⟩ := H
        refine wp_call (b := false) (y' := 96) (as := [.ref 101, .ref 18]) (rest := []) (P := ((mxT 101).1 = mxRc 96 ∧ mxG h21)) rfl (by with_unfolding_all rfl) ⟨(congrArg Prod.fst sT_101), G23⟩ (Nat.le_of_ble_eq_true rfl) (spm_96 G23 o24 o25 ?_)
        intro x26 h27 p28
        show mx_wp (d + 4) 33 35 [some (.ref 107), some (.ref 101), some (.ref b), some (.int i3)] [.int x26] h27 Q
        have H := H x26 h27 p28
        have G29 : mxG h27 := mxK_G (mvC_K p28.1) G23
        refine wp_br (P := True) (c := x26 = 0) (t := 44) (st' := []) rfl rfl trivial (fun c30 => ?_) (fun c30 => ?_)
        · skip
          have H := H.1 c30
          refine wp_steps (i' := 46) (ls' := [some (.ref 107), some (.ref 101), some (.ref b), some (.int i3)]) (st' := [.ref 17, .ref 101]) (h' := h27) (P := True) 2 rfl rfl trivial ?_
          obtain ⟨o31, o32, H⟩ := H
          refine wp_call (b := false) (y' := 96) (as := [.ref 101, .ref 17]) (rest := []) (P := ((mxT 101).1 = mxRc 96 ∧ mxG h27)) rfl (by with_unfolding_all rfl) ⟨(congrArg Prod.fst sT_101), G29⟩ (Nat.le_of_ble_eq_true rfl) (spm_96 G29 o31 o32 ?_)
          intro x33 h34 p35
          show mx_wp (d + 4) 33 47 [some (.ref 107), some (.ref 101), some (.ref b), some (.int i3)] [.int x33] h34 Q
          have H := H x33 h34 p35
          have G36 : mxG h34 := mxK_G (mvC_K p35.1) G29
          refine wp_br (P := True) (c := x33 = 0) (t := 56) (st' := []) rfl rfl trivial (fun c37 => ?_) (fun c37 => ?_)
          · skip
            have H := H.1 c37
            refine wp_steps (i' := 59) (ls' := [some (.ref 107), some (.ref 101), some (.ref b), some (.int i3)]) (st' := [.int 1014, .ref b, .ref 107]) (h' := h34) (P := True) 3 rfl rfl trivial ?_
            obtain ⟨o38, H⟩ := H
            refine wp_call (b := false) (y' := 40) (as := [.ref 107, .ref b, .int 1014]) (rest := []) (P := ((mxT 107).1 = mxRc 40 ∧ mxG h34)) rfl (by with_unfolding_all rfl) ⟨(congrArg Prod.fst sT_107), G36⟩ (Nat.le_of_ble_eq_true rfl) (spm_40 G36 hVb o38 ?_)
            intro h40 p41
            show mx_wp (d + 4) 33 60 [some (.ref 107), some (.ref 101), some (.ref b), some (.int i3)] [] h40 Q
            have H := H h40 p41
            have G42 : mxG h40 := mxU_G p41.1.1 G36
            refine wp_steps (i' := 62) (ls' := [some (.ref 107), some (.ref 101), some (.ref b), some (.int i3)]) (st' := [.int (mx_i h40 107 3)]) (h' := h40) (P := ((mxT 107).1 = 4 ∧ mxG h40) ∧ True) 2 rfl rfl ⟨⟨(congrArg Prod.fst sT_107), G42⟩, trivial⟩ ?_
            have J : ∀ (v43 : Int32) (ev43 : v43 = ((if (mx_i h40 107 3) = 0 then 1 else 0) : Int32)), mx_wp (d + 4) 33 66 [some (.ref 107), some (.ref 101), some (.ref b), some (.int i3)] [.int v43] h40 Q := by
              intro v43 ev43
              have H := H v43 ev43
              exact wp_end (o := .inl (some (.int v43))) (h' := h40) (P := (v43 = 0 ∨ v43 = 1)) rfl rfl (b01 ev43 (by repeat' (first | exact Or.inl rfl | exact Or.inr rfl | split))) H
            refine wp_br (P := True) (c := ¬ (mx_i h40 107 3) = 0) (t := 65) (st' := []) rfl rfl trivial (fun c44 => ?_) (fun c44 => ?_)
            · skip
              refine wp_steps (i' := 66) (ls' := [some (.ref 107), some (.ref 101), some (.ref b), some (.int i3)]) (st' := [.int 0]) (h' := h40) (P := True) 1 rfl rfl trivial ?_
              exact J _ (by rw [if_neg c44])
            · have c44 := Decidable.of_not_not c44
              refine wp_steps (i' := 64) (ls' := [some (.ref 107), some (.ref 101), some (.ref b), some (.int i3)]) (st' := [.int 1]) (h' := h40) (P := True) 1 rfl rfl trivial ?_
              refine wp_J (j := 66) (st' := [.int 1]) rfl rfl ?_
              exact J _ (by rw [if_pos c44])
          · skip
            have H := H.2 c37
            refine wp_steps (i' := 51) (ls' := [some (.ref 107), some (.ref 101), some (.ref b), some (.int i3)]) (st' := [.int 1014, .ref b, .ref 107]) (h' := h34) (P := True) 3 rfl rfl trivial ?_
            obtain ⟨o45, H⟩ := H
            refine wp_call (b := false) (y' := 40) (as := [.ref 107, .ref b, .int 1014]) (rest := []) (P := ((mxT 107).1 = mxRc 40 ∧ mxG h34)) rfl (by with_unfolding_all rfl) ⟨(congrArg Prod.fst sT_107), G36⟩ (Nat.le_of_ble_eq_true rfl) (spm_40 G36 hVb o45 ?_)
            intro h47 p48
            show mx_wp (d + 4) 33 52 [some (.ref 107), some (.ref 101), some (.ref b), some (.int i3)] [] h47 Q
            have H := H h47 p48
            have G49 : mxG h47 := mxU_G p48.1.1 G36
            refine wp_steps (i' := 54) (ls' := [some (.ref 107), some (.ref 101), some (.ref b), some (.int i3)]) (st' := [.int 1014, .ref 107]) (h' := h47) (P := True) 2 rfl rfl trivial ?_
            obtain ⟨o50, H⟩ := H
            refine wp_call (b := false) (y' := 37) (as := [.ref 107, .int 1014]) (rest := []) (P := ((mxT 107).1 = mxRc 37 ∧ mxG h47)) rfl (by with_unfolding_all rfl) ⟨(congrArg Prod.fst sT_107), G49⟩ (Nat.le_of_ble_eq_true rfl) (spm_37 G49 o50 ?_)
            intro h52 p53
            show mx_wp (d + 4) 33 55 [some (.ref 107), some (.ref 101), some (.ref b), some (.int i3)] [] h52 Q
            have H := H h52 p53
            have G54 : mxG h52 := mxU_G p53.1 G49
            refine wp_J (j := 67) (st' := []) rfl rfl ?_
            refine wp_steps (i' := 68) (ls' := [some (.ref 107), some (.ref 101), some (.ref b), some (.int (i3 + 1))]) (st' := []) (h' := h52) (P := True) 1 rfl rfl trivial ?_
            refine wp_J (j := 11) (st' := []) rfl rfl ?_
            exact H 
        · skip
          have H := H.2 c30
          refine wp_steps (i' := 39) (ls' := [some (.ref 107), some (.ref 101), some (.ref b), some (.int i3)]) (st' := [.int 1013, .ref b, .ref 107]) (h' := h27) (P := True) 3 rfl rfl trivial ?_
          obtain ⟨o55, H⟩ := H
          refine wp_call (b := false) (y' := 40) (as := [.ref 107, .ref b, .int 1013]) (rest := []) (P := ((mxT 107).1 = mxRc 40 ∧ mxG h27)) rfl (by with_unfolding_all rfl) ⟨(congrArg Prod.fst sT_107), G29⟩ (Nat.le_of_ble_eq_true rfl) (spm_40 G29 hVb o55 ?_)
          intro h57 p58
          show mx_wp (d + 4) 33 40 [some (.ref 107), some (.ref 101), some (.ref b), some (.int i3)] [] h57 Q
          have H := H h57 p58
          have G59 : mxG h57 := mxU_G p58.1.1 G29
          refine wp_steps (i' := 42) (ls' := [some (.ref 107), some (.ref 101), some (.ref b), some (.int i3)]) (st' := [.int 1013, .ref 107]) (h' := h57) (P := True) 2 rfl rfl trivial ?_
          obtain ⟨o60, H⟩ := H
          refine wp_call (b := false) (y' := 37) (as := [.ref 107, .int 1013]) (rest := []) (P := ((mxT 107).1 = mxRc 37 ∧ mxG h57)) rfl (by with_unfolding_all rfl) ⟨(congrArg Prod.fst sT_107), G59⟩ (Nat.le_of_ble_eq_true rfl) (spm_37 G59 o60 ?_)
          intro h62 p63
          show mx_wp (d + 4) 33 43 [some (.ref 107), some (.ref 101), some (.ref b), some (.int i3)] [] h62 Q
          have H := H h62 p63
          have G64 : mxG h62 := mxU_G p63.1 G59
          refine wp_J (j := 67) (st' := []) rfl rfl ?_
          refine wp_steps (i' := 68) (ls' := [some (.ref 107), some (.ref 101), some (.ref b), some (.int (i3 + 1))]) (st' := []) (h' := h62) (P := True) 1 rfl rfl trivial ?_
          refine wp_J (j := 11) (st' := []) rfl rfl ?_
          exact H 
      · have c13 := Decidable.of_not_not c13
        have H := H.1 c13
        refine wp_steps (i' := 24) (ls' := [some (.ref 107), some (.ref 101), some (.ref b), some (.int i3)]) (st' := [.int 0]) (h' := h10) (P := True) 1 rfl rfl trivial ?_
        exact wp_end (o := .inl (some (.int 0))) (h' := h10) (P := ((0 : Int32) = 0 ∨ (0 : Int32) = 1)) rfl rfl (Or.inl rfl) H
