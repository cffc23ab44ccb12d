/-! 125: StoneBacks$ValleyText.readStone(LStoneBacks$Tape;LStoneBacks$Valley;)Z -/
set_option maxRecDepth 8000 in
theorem tr_125_0 {d : Nat} {h : mxH} {Q : mxO → mxH → Prop} {a : Nat} (G : mxG h) (hVa : (mxT a).1 = 9) (H : (okC h ∧ (3 ≤ 6 ∧ 6 < 29) ∧ (∀ (x3 : Int32) (h4 : mxH), p96 6 h x3 h4 → (okC h4 ∧ (∀ (x8 : Int32) (h9 : mxH), p100 (1 : Int32) (40 : Int32) h4 x8 h9 → ((x8 = (-1) → Q (.inl (some (.int 0))) h9) ∧ (¬ x8 = (-1) → (okC h9 ∧ (3 ≤ 7 ∧ 7 < 29) ∧ (∀ (x15 : Int32) (h16 : mxH), p96 7 h9 x15 h16 → ((x15 = 0 → Q (.inl (some (.int 0))) h16) ∧ (¬ x15 = 0 → (okC h16 ∧ (∀ (x21 : Int32) (h22 : mxH), p126 ((-1) : Int32) a h16 x21 h22 → ((x21 = (-1) → Q (.inl (some (.int 0))) h22) ∧ (¬ x21 = (-1) → (okC h22 ∧ (3 ≤ 8 ∧ 8 < 29) ∧ (∀ (x28 : Int32) (h29 : mxH), p96 8 h22 x28 h29 → ((x28 = 0 → Q (.inl (some (.int 0))) h29) ∧ (¬ x28 = 0 → (okC h29 ∧ (∀ (x34 : Int32) (h35 : mxH), p126 x21 a h29 x34 h35 → ((x34 = (-1) → Q (.inl (some (.int 0))) h35) ∧ (¬ x34 = (-1) → (okC h35 ∧ (3 ≤ 9 ∧ 9 < 29) ∧ (∀ (x41 : Int32) (h42 : mxH), p96 9 h35 x41 h42 → ((x41 = 0 → (cB (mx_i h42 (a + 7) 0) 10 ∧ (∀ (x47 : Int32) (h48 : mxH), adS a x8 x21 x34 x21 h42 x47 h48 → Q (.inl (some (.int 1))) h48))) ∧ (¬ x41 = 0 → (okC h42 ∧ (3 ≤ 10 ∧ 10 < 29) ∧ (∀ (x53 : Int32) (h54 : mxH), p96 10 h42 x53 h54 → ((x53 = 0 → ((((-1) : Int32) = (-1) → Q (.inl (some (.int 0))) h54) ∧ (¬ ((-1) : Int32) = (-1) → (cB (mx_i h54 (a + 7) 0) 10 ∧ (∀ (x60 : Int32) (h61 : mxH), adS a x8 x21 x34 ((-1) : Int32) h54 x60 h61 → Q (.inl (some (.int 1))) h61))))) ∧ (¬ x53 = 0 → (okC h54 ∧ (∀ (x65 : Int32) (h66 : mxH), p126 x34 a h54 x65 h66 → ((x65 = (-1) → Q (.inl (some (.int 0))) h66) ∧ (¬ x65 = (-1) → (cB (mx_i h66 (a + 7) 0) 10 ∧ (∀ (x71 : Int32) (h72 : mxH), adS a x8 x21 x34 x65 h66 x71 h72 → Q (.inl (some (.int 1))) h72))))))))))))))))))))))))))))))))))))) : mx_wp (d + 3) 125 0 (mx_fr 125 [.ref 101, .ref a]) [] h Q := by
  show mx_wp (d + 3) 125 0 [some (.ref 101), some (.ref a), none, none, none, none] [] h Q
  refine wp_steps (i' := 2) (ls' := [some (.ref 101), some (.ref a), none, none, none, none]) (st' := [.ref 6, .ref 101]) (h' := h) (P := True) 2 rfl rfl trivial ?_
  obtain ⟨o1, o2, H⟩ := H
  refine wp_call (b := false) (y' := 96) (as := [.ref 101, .ref 6]) (rest := []) (P := ((mxT 101).1 = mxRc 96 ∧ mxG h)) rfl (by with_unfolding_all rfl) ⟨(congrArg Prod.fst sT_101), G⟩ (Nat.le_of_ble_eq_true rfl) (spm_96 G o1 o2 ?_)
  intro x3 h4 p5
  show mx_wp (d + 3) 125 3 [some (.ref 101), some (.ref a), none, none, none, none] [.int x3] h4 Q
  have H := H x3 h4 p5
  have G6 : mxG h4 := mxK_G (mvC_K p5.1) G
  refine wp_steps (i' := 7) (ls' := [some (.ref 101), some (.ref a), none, none, none, none]) (st' := [.int 40, .int 1, .ref 101]) (h' := h4) (P := True) 4 rfl rfl trivial ?_
  obtain ⟨o7, H⟩ := H
  refine wp_call (b := false) (y' := 100) (as := [.ref 101, .int 1, .int 40]) (rest := []) (P := ((mxT 101).1 = mxRc 100 ∧ mxG h4)) rfl (by with_unfolding_all rfl) ⟨(congrArg Prod.fst sT_101), G6⟩ (Nat.le_of_ble_eq_true rfl) (spm_100 G6 o7 ?_)
  intro x8 h9 p10
  show mx_wp (d + 3) 125 8 [some (.ref 101), some (.ref a), none, none, none, none] [.int x8] h9 Q
  have H := H x8 h9 p10
  have G11 : mxG h9 := mxK_G (mvC_K p10.1) G6
  refine wp_steps (i' := 11) (ls' := [some (.ref 101), some (.ref a), some (.int x8), none, none, none]) (st' := [.int (-1), .int x8]) (h' := h9) (P := True) 3 rfl rfl trivial ?_
  refine wp_br (P := True) (c := x8 = (-1)) (t := 16) (st' := []) rfl rfl trivial (fun c12 => ?_) (fun c12 => ?_)
  · skip
    have H := H.1 c12
    refine wp_steps (i' := 17) (ls' := [some (.ref 101), some (.ref a), some (.int x8), none, none, none]) (st' := [.int 0]) (h' := h9) (P := True) 1 rfl rfl trivial ?_
    exact wp_end (o := .inl (some (.int 0))) (h' := h9) (P := ((0 : Int32) = 0 ∨ (0 : Int32) = 1)) rfl rfl (Or.inl rfl) H
  · skip
    have H := H.2 c12
    refine wp_steps (i' := 14) (ls' := [some (.ref 101), some (.ref a), some (.int x8), none, none, none]) (st' := [.ref 7, .ref 101]) (h' := h9) (P := True) 2 rfl rfl trivial ?_
    obtain ⟨o13, o14, H⟩ := H
    refine wp_call (b := false) (y' := 96) (as := [.ref 101, .ref 7]) (rest := []) (P := ((mxT 101).1 = mxRc 96 ∧ mxG h9)) rfl (by with_unfolding_all rfl) ⟨(congrArg Prod.fst sT_101), G11⟩ (Nat.le_of_ble_eq_true rfl) (spm_96 G11 o13 o14 ?_)
    intro x15 h16 p17
    show mx_wp (d + 3) 125 15 [some (.ref 101), some (.ref a), some (.int x8), none, none, none] [.int x15] h16 Q
    have H := H x15 h16 p17
    have G18 : mxG h16 := mxK_G (mvC_K p17.1) G11
    refine wp_br (P := True) (c := ¬ x15 = 0) (t := 18) (st' := []) rfl rfl trivial (fun c19 => ?_) (fun c19 => ?_)
    · skip
      have H := H.2 c19
      refine wp_steps (i' := 21) (ls' := [some (.ref 101), some (.ref a), some (.int x8), none, none, none]) (st' := [.ref a, .ref 101, .int (-1)]) (h' := h16) (P := True) 3 rfl rfl trivial ?_
      obtain ⟨o20, H⟩ := H
      refine wp_call (b := false) (y' := 126) (as := [.int (-1), .ref 101, .ref a]) (rest := []) (P := True) rfl (by with_unfolding_all rfl) trivial (Nat.le_of_ble_eq_true rfl) (sp_126 G18 hVa o20 ?_)
      intro x21 h22 p23
      show mx_wp (d + 3) 125 22 [some (.ref 101), some (.ref a), some (.int x8), none, none, none] [.int x21] h22 Q
      have H := H x21 h22 p23
      have G24 : mxG h22 := mxK_G (mvC_K p23.1) G18
      refine wp_steps (i' := 25) (ls' := [some (.ref 101), some (.ref a), some (.int x8), some (.int x21), none, none]) (st' := [.int (-1), .int x21]) (h' := h22) (P := True) 3 rfl rfl trivial ?_
      refine wp_br (P := True) (c := x21 = (-1)) (t := 30) (st' := []) rfl rfl trivial (fun c25 => ?_) (fun c25 => ?_)
      · skip
        have H := H.1 c25
        refine wp_steps (i' := 31) (ls' := [some (.ref 101), some (.ref a), some (.int x8), some (.int x21), none, none]) (st' := [.int 0]) (h' := h22) (P := True) 1 rfl rfl trivial ?_
        exact wp_end (o := .inl (some (.int 0))) (h' := h22) (P := ((0 : Int32) = 0 ∨ (0 : Int32) = 1)) rfl rfl (Or.inl rfl) H
      · skip
        have H := H.2 c25
        refine wp_steps (i' := 28) (ls' := [some (.ref 101), some (.ref a), some (.int x8), some (.int x21), none, none]) (st' := [.ref 8, .ref 101]) (h' := h22) (P := True) 2 rfl rfl trivial ?_
        obtain ⟨o26, o27, H⟩ := H
        refine wp_call (b := false) (y' := 96) (as := [.ref 101, .ref 8]) (rest := []) (P := ((mxT 101).1 = mxRc 96 ∧ mxG h22)) rfl (by with_unfolding_all rfl) ⟨(congrArg Prod.fst sT_101), G24⟩ (Nat.le_of_ble_eq_true rfl) (spm_96 G24 o26 o27 ?_)
        intro x28 h29 p30
        show mx_wp (d + 3) 125 29 [some (.ref 101), some (.ref a), some (.int x8), some (.int x21), none, none] [.int x28] h29 Q
        have H := H x28 h29 p30
        have G31 : mxG h29 := mxK_G (mvC_K p30.1) G24
        refine wp_br (P := True) (c := ¬ x28 = 0) (t := 32) (st' := []) rfl rfl trivial (fun c32 => ?_) (fun c32 => ?_)
        · skip
          have H := H.2 c32
          refine wp_steps (i' := 35) (ls' := [some (.ref 101), some (.ref a), some (.int x8), some (.int x21), none, none]) (st' := [.ref a, .ref 101, .int x21]) (h' := h29) (P := True) 3 rfl rfl trivial ?_
          obtain ⟨o33, H⟩ := H
          refine wp_call (b := false) (y' := 126) (as := [.int x21, .ref 101, .ref a]) (rest := []) (P := True) rfl (by with_unfolding_all rfl) trivial (Nat.le_of_ble_eq_true rfl) (sp_126 G31 hVa o33 ?_)
          intro x34 h35 p36
          show mx_wp (d + 3) 125 36 [some (.ref 101), some (.ref a), some (.int x8), some (.int x21), none, none] [.int x34] h35 Q
          have H := H x34 h35 p36
          have G37 : mxG h35 := mxK_G (mvC_K p36.1) G31
          refine wp_steps (i' := 39) (ls' := [some (.ref 101), some (.ref a), some (.int x8), some (.int x21), some (.int x34), none]) (st' := [.int (-1), .int x34]) (h' := h35) (P := True) 3 rfl rfl trivial ?_
          refine wp_br (P := True) (c := ¬ x34 = (-1)) (t := 42) (st' := []) rfl rfl trivial (fun c38 => ?_) (fun c38 => ?_)
          · skip
            have H := H.2 c38
            refine wp_steps (i' := 46) (ls' := [some (.ref 101), some (.ref a), some (.int x8), some (.int x21), some (.int x34), some (.int x21)]) (st' := [.ref 9, .ref 101]) (h' := h35) (P := True) 4 rfl rfl trivial ?_
            obtain ⟨o39, o40, H⟩ := H
            refine wp_call (b := false) (y' := 96) (as := [.ref 101, .ref 9]) (rest := []) (P := ((mxT 101).1 = mxRc 96 ∧ mxG h35)) rfl (by with_unfolding_all rfl) ⟨(congrArg Prod.fst sT_101), G37⟩ (Nat.le_of_ble_eq_true rfl) (spm_96 G37 o39 o40 ?_)
            intro x41 h42 p43
            show mx_wp (d + 3) 125 47 [some (.ref 101), some (.ref a), some (.int x8), some (.int x21), some (.int x34), some (.int x21)] [.int x41] h42 Q
            have H := H x41 h42 p43
            have G44 : mxG h42 := mxK_G (mvC_K p43.1) G37
            refine wp_br (P := True) (c := x41 = 0) (t := 64) (st' := []) rfl rfl trivial (fun c45 => ?_) (fun c45 => ?_)
            · skip
              have H := H.1 c45
              refine wp_steps (i' := 70) (ls' := [some (.ref 101), some (.ref a), some (.int x8), some (.int x21), some (.int x34), some (.int x21)]) (st' := [.int x21, .int x34, .int x21, .int x8, .ref (a + 7)]) (h' := h42) (P := ((mxT a).1 = 9 ∧ mxG h42) ∧ True) 6 rfl rfl ⟨⟨(congrArg Prod.fst (sV_0 hVa)), G44⟩, trivial⟩ ?_
              obtain ⟨o46, H⟩ := H
              refine wp_call (b := false) (y' := 68) (as := [.ref (a + 7), .int x8, .int x21, .int x34, .int x21]) (rest := []) (P := ((mxT (a + 7)).1 = mxRc 68 ∧ mxG h42)) rfl (by with_unfolding_all rfl) ⟨(congrArg Prod.fst (sV_7 hVa)), G44⟩ (Nat.le_of_ble_eq_true rfl) (spn_68 G44 hVa o46 ?_)
              intro x47 h48 p49
              show mx_wp (d + 3) 125 71 [some (.ref 101), some (.ref a), some (.int x8), some (.int x21), some (.int x34), some (.int x21)] [.int x47] h48 Q
              have H := H x47 h48 p49
              have G50 : mxG h48 := mxU_G p49.1 G44
              refine wp_steps (i' := 73) (ls' := [some (.ref 101), some (.ref a), some (.int x8), some (.int x21), some (.int x34), some (.int x21)]) (st' := [.int 1]) (h' := h48) (P := True) 2 rfl rfl trivial ?_
              exact wp_end (o := .inl (some (.int 1))) (h' := h48) (P := ((1 : Int32) = 0 ∨ (1 : Int32) = 1)) rfl rfl (Or.inr rfl) H
            · skip
              have H := H.2 c45
              refine wp_steps (i' := 50) (ls' := [some (.ref 101), some (.ref a), some (.int x8), some (.int x21), some (.int x34), some (.int x21)]) (st' := [.ref 10, .ref 101]) (h' := h42) (P := True) 2 rfl rfl trivial ?_
              obtain ⟨o51, o52, H⟩ := H
              refine wp_call (b := false) (y' := 96) (as := [.ref 101, .ref 10]) (rest := []) (P := ((mxT 101).1 = mxRc 96 ∧ mxG h42)) rfl (by with_unfolding_all rfl) ⟨(congrArg Prod.fst sT_101), G44⟩ (Nat.le_of_ble_eq_true rfl) (spm_96 G44 o51 o52 ?_)
              intro x53 h54 p55
              show mx_wp (d + 3) 125 51 [some (.ref 101), some (.ref a), some (.int x8), some (.int x21), some (.int x34), some (.int x21)] [.int x53] h54 Q
              have H := H x53 h54 p55
              have G56 : mxG h54 := mxK_G (mvC_K p55.1) G44
              refine wp_br (P := True) (c := x53 = 0) (t := 57) (st' := []) rfl rfl trivial (fun c57 => ?_) (fun c57 => ?_)
              · skip
                have H := H.1 c57
                refine wp_steps (i' := 61) (ls' := [some (.ref 101), some (.ref a), some (.int x8), some (.int x21), some (.int x34), some (.int (-1))]) (st' := [.int (-1), .int (-1)]) (h' := h54) (P := True) 4 rfl rfl trivial ?_
                refine wp_br (P := True) (c := ¬ ((-1) : Int32) = (-1)) (t := 64) (st' := []) rfl rfl trivial (fun c58 => ?_) (fun c58 => ?_)
                · skip
                  have H := H.2 c58
                  refine wp_steps (i' := 70) (ls' := [some (.ref 101), some (.ref a), some (.int x8), some (.int x21), some (.int x34), some (.int (-1))]) (st' := [.int (-1), .int x34, .int x21, .int x8, .ref (a + 7)]) (h' := h54) (P := ((mxT a).1 = 9 ∧ mxG h54) ∧ True) 6 rfl rfl ⟨⟨(congrArg Prod.fst (sV_0 hVa)), G56⟩, trivial⟩ ?_
                  obtain ⟨o59, H⟩ := H
                  refine wp_call (b := false) (y' := 68) (as := [.ref (a + 7), .int x8, .int x21, .int x34, .int (-1)]) (rest := []) (P := ((mxT (a + 7)).1 = mxRc 68 ∧ mxG h54)) rfl (by with_unfolding_all rfl) ⟨(congrArg Prod.fst (sV_7 hVa)), G56⟩ (Nat.le_of_ble_eq_true rfl) (spn_68 G56 hVa o59 ?_)
                  intro x60 h61 p62
                  show mx_wp (d + 3) 125 71 [some (.ref 101), some (.ref a), some (.int x8), some (.int x21), some (.int x34), some (.int (-1))] [.int x60] h61 Q
                  have H := H x60 h61 p62
                  have G63 : mxG h61 := mxU_G p62.1 G56
                  refine wp_steps (i' := 73) (ls' := [some (.ref 101), some (.ref a), some (.int x8), some (.int x21), some (.int x34), some (.int (-1))]) (st' := [.int 1]) (h' := h61) (P := True) 2 rfl rfl trivial ?_
                  exact wp_end (o := .inl (some (.int 1))) (h' := h61) (P := ((1 : Int32) = 0 ∨ (1 : Int32) = 1)) rfl rfl (Or.inr rfl) H
                · have c58 := Decidable.of_not_not c58
                  have H := H.1 c58
                  refine wp_steps (i' := 63) (ls' := [some (.ref 101), some (.ref a), some (.int x8), some (.int x21), some (.int x34), some (.int (-1))]) (st' := [.int 0]) (h' := h54) (P := True) 1 rfl rfl trivial ?_
                  exact wp_end (o := .inl (some (.int 0))) (h' := h54) (P := ((0 : Int32) = 0 ∨ (0 : Int32) = 1)) rfl rfl (Or.inl rfl) H
              · skip
                have H := H.2 c57
                refine wp_steps (i' := 55) (ls' := [some (.ref 101), some (.ref a), some (.int x8), some (.int x21), some (.int x34), some (.int x21)]) (st' := [.ref a, .ref 101, .int x34]) (h' := h54) (P := True) 3 rfl rfl trivial ?_
                obtain ⟨o64, H⟩ := H
                refine wp_call (b := false) (y' := 126) (as := [.int x34, .ref 101, .ref a]) (rest := []) (P := True) rfl (by with_unfolding_all rfl) trivial (Nat.le_of_ble_eq_true rfl) (sp_126 G56 hVa o64 ?_)
                intro x65 h66 p67
                show mx_wp (d + 3) 125 56 [some (.ref 101), some (.ref a), some (.int x8), some (.int x21), some (.int x34), some (.int x21)] [.int x65] h66 Q
                have H := H x65 h66 p67
                have G68 : mxG h66 := mxK_G (mvC_K p67.1) G56
                refine wp_J (j := 58) (st' := [.int x65]) rfl rfl ?_
                refine wp_steps (i' := 61) (ls' := [some (.ref 101), some (.ref a), some (.int x8), some (.int x21), some (.int x34), some (.int x65)]) (st' := [.int (-1), .int x65]) (h' := h66) (P := True) 3 rfl rfl trivial ?_
                refine wp_br (P := True) (c := ¬ x65 = (-1)) (t := 64) (st' := []) rfl rfl trivial (fun c69 => ?_) (fun c69 => ?_)
                · skip
                  have H := H.2 c69
                  refine wp_steps (i' := 70) (ls' := [some (.ref 101), some (.ref a), some (.int x8), some (.int x21), some (.int x34), some (.int x65)]) (st' := [.int x65, .int x34, .int x21, .int x8, .ref (a + 7)]) (h' := h66) (P := ((mxT a).1 = 9 ∧ mxG h66) ∧ True) 6 rfl rfl ⟨⟨(congrArg Prod.fst (sV_0 hVa)), G68⟩, trivial⟩ ?_
                  obtain ⟨o70, H⟩ := H
                  refine wp_call (b := false) (y' := 68) (as := [.ref (a + 7), .int x8, .int x21, .int x34, .int x65]) (rest := []) (P := ((mxT (a + 7)).1 = mxRc 68 ∧ mxG h66)) rfl (by with_unfolding_all rfl) ⟨(congrArg Prod.fst (sV_7 hVa)), G68⟩ (Nat.le_of_ble_eq_true rfl) (spn_68 G68 hVa o70 ?_)
                  intro x71 h72 p73
                  show mx_wp (d + 3) 125 71 [some (.ref 101), some (.ref a), some (.int x8), some (.int x21), some (.int x34), some (.int x65)] [.int x71] h72 Q
                  have H := H x71 h72 p73
                  have G74 : mxG h72 := mxU_G p73.1 G68
                  refine wp_steps (i' := 73) (ls' := [some (.ref 101), some (.ref a), some (.int x8), some (.int x21), some (.int x34), some (.int x65)]) (st' := [.int 1]) (h' := h72) (P := True) 2 rfl rfl trivial ?_
                  exact wp_end (o := .inl (some (.int 1))) (h' := h72) (P := ((1 : Int32) = 0 ∨ (1 : Int32) = 1)) rfl rfl (Or.inr rfl) H
                · have c69 := Decidable.of_not_not c69
                  have H := H.1 c69
                  refine wp_steps (i' := 63) (ls' := [some (.ref 101), some (.ref a), some (.int x8), some (.int x21), some (.int x34), some (.int x65)]) (st' := [.int 0]) (h' := h66) (P := True) 1 rfl rfl trivial ?_
                  exact wp_end (o := .inl (some (.int 0))) (h' := h66) (P := ((0 : Int32) = 0 ∨ (0 : Int32) = 1)) rfl rfl (Or.inl rfl) H
          · have c38 := Decidable.of_not_not c38
            have H := H.1 c38
            refine wp_steps (i' := 41) (ls' := [some (.ref 101), some (.ref a), some (.int x8), some (.int x21), some (.int x34), none]) (st' := [.int 0]) (h' := h35) (P := True) 1 rfl rfl trivial ?_
            exact wp_end (o := .inl (some (.int 0))) (h' := h35) (P := ((0 : Int32) = 0 ∨ (0 : Int32) = 1)) rfl rfl (Or.inl rfl) H
        · have c32 := Decidable.of_not_not c32
          have H := H.1 c32
          refine wp_steps (i' := 31) (ls' := [some (.ref 101), some (.ref a), some (.int x8), some (.int x21), none, none]) (st' := [.int 0]) (h' := h29) (P := True) 1 rfl rfl trivial ?_
          exact wp_end (o := .inl (some (.int 0))) (h' := h29) (P := ((0 : Int32) = 0 ∨ (0 : Int32) = 1)) rfl rfl (Or.inl rfl) H
    · have c19 := Decidable.of_not_not c19
      have H := H.1 c19
      refine wp_steps (i' := 17) (ls' := [some (.ref 101), some (.ref a), some (.int x8), none, none, none]) (st' := [.int 0]) (h' := h16) (P := True) 1 rfl rfl trivial ?_
      exact wp_end (o := .inl (some (.int 0))) (h' := h16) (P := ((0 : Int32) = 0 ∨ (0 : Int32) = 1)) rfl rfl (Or.inl rfl) H
/-! 124: StoneBacks$ValleyText.readPerson(LStoneBacks$Tape;LStoneBacks$Valley;)Z -/
set_option maxRecDepth 8000 in
theorem trn_124_0 {d : Nat} {h : mxH} {Q : mxO → mxH → Prop} {a : Nat} (G : mxG h) (hVa : (mxT a).1 = 9) (H : (okC h ∧ (3 ≤ 3 ∧ 3 < 29) ∧ (∀ (x3 : Int32) (h4 : mxH), p96 3 h x3 h4 → (okC h4 ∧ (∀ (x8 : Int32) (h9 : mxH), p100 (0 : Int32) (999 : Int32) h4 x8 h9 → ((x8 = (-1) → Q (.inl (some (.int 0))) h9) ∧ (¬ x8 = (-1) → (okC h9 ∧ (3 ≤ 24 ∧ 24 < 29) ∧ (∀ (x15 : Int32) (h16 : mxH), p96 24 h9 x15 h16 → ((x15 = 0 → Q (.inl (some (.int 0))) h16) ∧ (¬ x15 = 0 → (okC h16 ∧ (∀ (x21 : Int32) (h22 : mxH), p100 (1 : Int32) (60 : Int32) h16 x21 h22 → ((x21 = (-1) → Q (.inl (some (.int 0))) h22) ∧ (¬ x21 = (-1) → (okC h22 ∧ (3 ≤ 5 ∧ 5 < 29) ∧ (∀ (x28 : Int32) (h29 : mxH), p96 5 h22 x28 h29 → ((x28 = 0 → Q (.inl (some (.int 0))) h29) ∧ (¬ x28 = 0 → (okC h29 ∧ (∀ (x34 : Int32) (h35 : mxH), p100 (0 : Int32) (11 : Int32) h29 x34 h35 → ((x34 = (-1) → Q (.inl (some (.int 0))) h35) ∧ (¬ x34 = (-1) → (okC h35 ∧ (3 ≤ 4 ∧ 4 < 29) ∧ (∀ (x41 : Int32) (h42 : mxH), p96 4 h35 x41 h42 → ((x41 = 0 → (cB (mx_i h42 (a + 1) 0) 6 ∧ (∀ (h48 : mxH), adP a x8 x21 x34 x34 h42 h48 → Q (.inl (some (.int 1))) h48))) ∧ (¬ x41 = 0 → (okC h42 ∧ (∀ (x52 : Int32) (h53 : mxH), p100 (0 : Int32) (11 : Int32) h42 x52 h53 → ((x52 = (-1) → Q (.inl (some (.int 0))) h53) ∧ (¬ x52 = (-1) → (cB (mx_i h53 (a + 1) 0) 6 ∧ (∀ (h59 : mxH), adP a x8 x21 x34 x52 h53 h59 → Q (.inl (some (.int 1))) h59))))))))))))))))))))))))))))))))) : mx_wp (d + 2) 124 0 (mx_fr 124 [.ref 101, .ref a]) [] h Q := by
  show mx_wp (d + 2) 124 0 [some (.ref 101), some (.ref a), none, none, none, none] [] h Q
  refine wp_steps (i' := 2) (ls' := [some (.ref 101), some (.ref a), none, none, none, none]) (st' := [.ref 3, .ref 101]) (h' := h) (P := True) 2 rfl rfl trivial ?_
  obtain ⟨o1, o2, H⟩ := H
  refine wp_call (b := false) (y' := 96) (as := [.ref 101, .ref 3]) (rest := []) (P := ((mxT 101).1 = mxRc 96 ∧ mxG h)) rfl (by with_unfolding_all rfl) ⟨(congrArg Prod.fst sT_101), G⟩ (Nat.le_of_ble_eq_true rfl) (spm_96 G o1 o2 ?_)
  intro x3 h4 p5
  show mx_wp (d + 2) 124 3 [some (.ref 101), some (.ref a), none, none, none, none] [.int x3] h4 Q
  have H := H x3 h4 p5
  have G6 : mxG h4 := mxK_G (mvC_K p5.1) G
  refine wp_steps (i' := 7) (ls' := [some (.ref 101), some (.ref a), none, none, none, none]) (st' := [.int 999, .int 0, .ref 101]) (h' := h4) (P := True) 4 rfl rfl trivial ?_
  obtain ⟨o7, H⟩ := H
  refine wp_call (b := false) (y' := 100) (as := [.ref 101, .int 0, .int 999]) (rest := []) (P := ((mxT 101).1 = mxRc 100 ∧ mxG h4)) rfl (by with_unfolding_all rfl) ⟨(congrArg Prod.fst sT_101), G6⟩ (Nat.le_of_ble_eq_true rfl) (spm_100 G6 o7 ?_)
  intro x8 h9 p10
  show mx_wp (d + 2) 124 8 [some (.ref 101), some (.ref a), none, none, none, none] [.int x8] h9 Q
  have H := H x8 h9 p10
  have G11 : mxG h9 := mxK_G (mvC_K p10.1) G6
  refine wp_steps (i' := 11) (ls' := [some (.ref 101), some (.ref a), some (.int x8), none, none, none]) (st' := [.int (-1), .int x8]) (h' := h9) (P := True) 3 rfl rfl trivial ?_
  refine wp_br (P := True) (c := x8 = (-1)) (t := 16) (st' := []) rfl rfl trivial (fun c12 => ?_) (fun c12 => ?_)
  · skip
    have H := H.1 c12
    refine wp_steps (i' := 17) (ls' := [some (.ref 101), some (.ref a), some (.int x8), none, none, none]) (st' := [.int 0]) (h' := h9) (P := True) 1 rfl rfl trivial ?_
    exact wp_end (o := .inl (some (.int 0))) (h' := h9) (P := ((0 : Int32) = 0 ∨ (0 : Int32) = 1)) rfl rfl (Or.inl rfl) H
  · skip
    have H := H.2 c12
    refine wp_steps (i' := 14) (ls' := [some (.ref 101), some (.ref a), some (.int x8), none, none, none]) (st' := [.ref 24, .ref 101]) (h' := h9) (P := True) 2 rfl rfl trivial ?_
    obtain ⟨o13, o14, H⟩ := H
    refine wp_call (b := false) (y' := 96) (as := [.ref 101, .ref 24]) (rest := []) (P := ((mxT 101).1 = mxRc 96 ∧ mxG h9)) rfl (by with_unfolding_all rfl) ⟨(congrArg Prod.fst sT_101), G11⟩ (Nat.le_of_ble_eq_true rfl) (spm_96 G11 o13 o14 ?_)
    intro x15 h16 p17
    show mx_wp (d + 2) 124 15 [some (.ref 101), some (.ref a), some (.int x8), none, none, none] [.int x15] h16 Q
    have H := H x15 h16 p17
    have G18 : mxG h16 := mxK_G (mvC_K p17.1) G11
    refine wp_br (P := True) (c := ¬ x15 = 0) (t := 18) (st' := []) rfl rfl trivial (fun c19 => ?_) (fun c19 => ?_)
    · skip
      have H := H.2 c19
      refine wp_steps (i' := 21) (ls' := [some (.ref 101), some (.ref a), some (.int x8), none, none, none]) (st' := [.int 60, .int 1, .ref 101]) (h' := h16) (P := True) 3 rfl rfl trivial ?_
      obtain ⟨o20, H⟩ := H
      refine wp_call (b := false) (y' := 100) (as := [.ref 101, .int 1, .int 60]) (rest := []) (P := ((mxT 101).1 = mxRc 100 ∧ mxG h16)) rfl (by with_unfolding_all rfl) ⟨(congrArg Prod.fst sT_101), G18⟩ (Nat.le_of_ble_eq_true rfl) (spm_100 G18 o20 ?_)
      intro x21 h22 p23
      show mx_wp (d + 2) 124 22 [some (.ref 101), some (.ref a), some (.int x8), none, none, none] [.int x21] h22 Q
      have H := H x21 h22 p23
      have G24 : mxG h22 := mxK_G (mvC_K p23.1) G18
      refine wp_steps (i' := 25) (ls' := [some (.ref 101), some (.ref a), some (.int x8), some (.int x21), none, none]) (st' := [.int (-1), .int x21]) (h' := h22) (P := True) 3 rfl rfl trivial ?_
      refine wp_br (P := True) (c := x21 = (-1)) (t := 30) (st' := []) rfl rfl trivial (fun c25 => ?_) (fun c25 => ?_)
      · skip
        have H := H.1 c25
        refine wp_steps (i' := 31) (ls' := [some (.ref 101), some (.ref a), some (.int x8), some (.int x21), none, none]) (st' := [.int 0]) (h' := h22) (P := True) 1 rfl rfl trivial ?_
        exact wp_end (o := .inl (some (.int 0))) (h' := h22) (P := ((0 : Int32) = 0 ∨ (0 : Int32) = 1)) rfl rfl (Or.inl rfl) H
      · skip
        have H := H.2 c25
        refine wp_steps (i' := 28) (ls' := [some (.ref 101), some (.ref a), some (.int x8), some (.int x21), none, none]) (st' := [.ref 5, .ref 101]) (h' := h22) (P := True) 2 rfl rfl trivial ?_
        obtain ⟨o26, o27, H⟩ := H
        refine wp_call (b := false) (y' := 96) (as := [.ref 101, .ref 5]) (rest := []) (P := ((mxT 101).1 = mxRc 96 ∧ mxG h22)) rfl (by with_unfolding_all rfl) ⟨(congrArg Prod.fst sT_101), G24⟩ (Nat.le_of_ble_eq_true rfl) (spm_96 G24 o26 o27 ?_)
        intro x28 h29 p30
        show mx_wp (d + 2) 124 29 [some (.ref 101), some (.ref a), some (.int x8), some (.int x21), none, none] [.int x28] h29 Q
        have H := H x28 h29 p30
        have G31 : mxG h29 := mxK_G (mvC_K p30.1) G24
        refine wp_br (P := True) (c := ¬ x28 = 0) (t := 32) (st' := []) rfl rfl trivial (fun c32 => ?_) (fun c32 => ?_)
        · skip
          have H := H.2 c32
          refine wp_steps (i' := 35) (ls' := [some (.ref 101), some (.ref a), some (.int x8), some (.int x21), none, none]) (st' := [.int 11, .int 0, .ref 101]) (h' := h29) (P := True) 3 rfl rfl trivial ?_
          obtain ⟨o33, H⟩ := H
          refine wp_call (b := false) (y' := 100) (as := [.ref 101, .int 0, .int 11]) (rest := []) (P := ((mxT 101).1 = mxRc 100 ∧ mxG h29)) rfl (by with_unfolding_all rfl) ⟨(congrArg Prod.fst sT_101), G31⟩ (Nat.le_of_ble_eq_true rfl) (spm_100 G31 o33 ?_)
          intro x34 h35 p36
          show mx_wp (d + 2) 124 36 [some (.ref 101), some (.ref a), some (.int x8), some (.int x21), none, none] [.int x34] h35 Q
          have H := H x34 h35 p36
          have G37 : mxG h35 := mxK_G (mvC_K p36.1) G31
          refine wp_steps (i' := 39) (ls' := [some (.ref 101), some (.ref a), some (.int x8), some (.int x21), some (.int x34), none]) (st' := [.int (-1), .int x34]) (h' := h35) (P := True) 3 rfl rfl trivial ?_
          refine wp_br (P := True) (c := ¬ x34 = (-1)) (t := 42) (st' := []) rfl rfl trivial (fun c38 => ?_) (fun c38 => ?_)
          · skip
            have H := H.2 c38
            refine wp_steps (i' := 46) (ls' := [some (.ref 101), some (.ref a), some (.int x8), some (.int x21), some (.int x34), some (.int x34)]) (st' := [.ref 4, .ref 101]) (h' := h35) (P := True) 4 rfl rfl trivial ?_
            obtain ⟨o39, o40, H⟩ := H
            refine wp_call (b := false) (y' := 96) (as := [.ref 101, .ref 4]) (rest := []) (P := ((mxT 101).1 = mxRc 96 ∧ mxG h35)) rfl (by with_unfolding_all rfl) ⟨(congrArg Prod.fst sT_101), G37⟩ (Nat.le_of_ble_eq_true rfl) (spm_96 G37 o39 o40 ?_)
            intro x41 h42 p43
            show mx_wp (d + 2) 124 47 [some (.ref 101), some (.ref a), some (.int x8), some (.int x21), some (.int x34), some (.int x34)] [.int x41] h42 Q
            have H := H x41 h42 p43
            have G44 : mxG h42 := mxK_G (mvC_K p43.1) G37
            refine wp_br (P := True) (c := x41 = 0) (t := 58) (st' := []) rfl rfl trivial (fun c45 => ?_) (fun c45 => ?_)
            · skip
              have H := H.1 c45
              refine wp_steps (i' := 64) (ls' := [some (.ref 101), some (.ref a), some (.int x8), some (.int x21), some (.int x34), some (.int x34)]) (st' := [.int x34, .int x34, .int x21, .int x8, .ref (a + 1)]) (h' := h42) (P := ((mxT a).1 = 9 ∧ mxG h42) ∧ True) 6 rfl rfl ⟨⟨(congrArg Prod.fst (sV_0 hVa)), G44⟩, trivial⟩ ?_
              obtain ⟨o46, H⟩ := H
              refine wp_call (b := false) (y' := 45) (as := [.ref (a + 1), .int x8, .int x21, .int x34, .int x34]) (rest := []) (P := ((mxT (a + 1)).1 = mxRc 45 ∧ mxG h42)) rfl (by with_unfolding_all rfl) ⟨(congrArg Prod.fst (sV_1 hVa)), G44⟩ (Nat.le_of_ble_eq_true rfl) (spn_45 G44 hVa o46 ?_)
              intro h48 p49
              show mx_wp (d + 2) 124 65 [some (.ref 101), some (.ref a), some (.int x8), some (.int x21), some (.int x34), some (.int x34)] [] h48 Q
              have H := H h48 p49
              have G50 : mxG h48 := mxU_G p49.1 G44
              refine wp_steps (i' := 66) (ls' := [some (.ref 101), some (.ref a), some (.int x8), some (.int x21), some (.int x34), some (.int x34)]) (st' := [.int 1]) (h' := h48) (P := True) 1 rfl rfl trivial ?_
              exact wp_end (o := .inl (some (.int 1))) (h' := h48) (P := ((1 : Int32) = 0 ∨ (1 : Int32) = 1)) rfl rfl (Or.inr rfl) H
            · skip
              have H := H.2 c45
              refine wp_steps (i' := 51) (ls' := [some (.ref 101), some (.ref a), some (.int x8), some (.int x21), some (.int x34), some (.int x34)]) (st' := [.int 11, .int 0, .ref 101]) (h' := h42) (P := True) 3 rfl rfl trivial ?_
              obtain ⟨o51, H⟩ := H
              refine wp_call (b := false) (y' := 100) (as := [.ref 101, .int 0, .int 11]) (rest := []) (P := ((mxT 101).1 = mxRc 100 ∧ mxG h42)) rfl (by with_unfolding_all rfl) ⟨(congrArg Prod.fst sT_101), G44⟩ (Nat.le_of_ble_eq_true rfl) (spm_100 G44 o51 ?_)
              intro x52 h53 p54
              show mx_wp (d + 2) 124 52 [some (.ref 101), some (.ref a), some (.int x8), some (.int x21), some (.int x34), some (.int x34)] [.int x52] h53 Q
              have H := H x52 h53 p54
              have G55 : mxG h53 := mxK_G (mvC_K p54.1) G44
              refine wp_steps (i' := 55) (ls' := [some (.ref 101), some (.ref a), some (.int x8), some (.int x21), some (.int x34), some (.int x52)]) (st' := [.int (-1), .int x52]) (h' := h53) (P := True) 3 rfl rfl trivial ?_
              refine wp_br (P := True) (c := ¬ x52 = (-1)) (t := 58) (st' := []) rfl rfl trivial (fun c56 => ?_) (fun c56 => ?_)
              · skip
                have H := H.2 c56
                refine wp_steps (i' := 64) (ls' := [some (.ref 101), some (.ref a), some (.int x8), some (.int x21), some (.int x34), some (.int x52)]) (st' := [.int x52, .int x34, .int x21, .int x8, .ref (a + 1)]) (h' := h53) (P := ((mxT a).1 = 9 ∧ mxG h53) ∧ True) 6 rfl rfl ⟨⟨(congrArg Prod.fst (sV_0 hVa)), G55⟩, trivial⟩ ?_
                obtain ⟨o57, H⟩ := H
                refine wp_call (b := false) (y' := 45) (as := [.ref (a + 1), .int x8, .int x21, .int x34, .int x52]) (rest := []) (P := ((mxT (a + 1)).1 = mxRc 45 ∧ mxG h53)) rfl (by with_unfolding_all rfl) ⟨(congrArg Prod.fst (sV_1 hVa)), G55⟩ (Nat.le_of_ble_eq_true rfl) (spn_45 G55 hVa o57 ?_)
                intro h59 p60
                show mx_wp (d + 2) 124 65 [some (.ref 101), some (.ref a), some (.int x8), some (.int x21), some (.int x34), some (.int x52)] [] h59 Q
                have H := H h59 p60
                have G61 : mxG h59 := mxU_G p60.1 G55
                refine wp_steps (i' := 66) (ls' := [some (.ref 101), some (.ref a), some (.int x8), some (.int x21), some (.int x34), some (.int x52)]) (st' := [.int 1]) (h' := h59) (P := True) 1 rfl rfl trivial ?_
                exact wp_end (o := .inl (some (.int 1))) (h' := h59) (P := ((1 : Int32) = 0 ∨ (1 : Int32) = 1)) rfl rfl (Or.inr rfl) H
              · have c56 := Decidable.of_not_not c56
                have H := H.1 c56
                refine wp_steps (i' := 57) (ls' := [some (.ref 101), some (.ref a), some (.int x8), some (.int x21), some (.int x34), some (.int x52)]) (st' := [.int 0]) (h' := h53) (P := True) 1 rfl rfl trivial ?_
                exact wp_end (o := .inl (some (.int 0))) (h' := h53) (P := ((0 : Int32) = 0 ∨ (0 : Int32) = 1)) rfl rfl (Or.inl rfl) H
          · have c38 := Decidable.of_not_not c38
            have H := H.1 c38
            refine wp_steps (i' := 41) (ls' := [some (.ref 101), some (.ref a), some (.int x8), some (.int x21), some (.int x34), none]) (st' := [.int 0]) (h' := h35) (P := True) 1 rfl rfl trivial ?_
            exact wp_end (o := .inl (some (.int 0))) (h' := h35) (P := ((0 : Int32) = 0 ∨ (0 : Int32) = 1)) rfl rfl (Or.inl rfl) H
        · have c32 := Decidable.of_not_not c32
          have H := H.1 c32
          refine wp_steps (i' := 31) (ls' := [some (.ref 101), some (.ref a), some (.int x8), some (.int x21), none, none]) (st' := [.int 0]) (h' := h29) (P := True) 1 rfl rfl trivial ?_
          exact wp_end (o := .inl (some (.int 0))) (h' := h29) (P := ((0 : Int32) = 0 ∨ (0 : Int32) = 1)) rfl rfl (Or.inl rfl) H
    · have c19 := Decidable.of_not_not c19
      have H := H.1 c19
      refine wp_steps (i' := 17) (ls' := [some (.ref 101), some (.ref a), some (.int x8), none, none, none]) (st' := [.int 0]) (h' := h16) (P := True) 1 rfl rfl trivial ?_
      exact wp_end (o := .inl (some (.int 0))) (h' := h16) (P := ((0 : Int32) = 0 ∨ (0 : Int32) = 1)) rfl rfl (Or.inl rfl) H
