/-! 123: StoneBacks$ValleyText.readLine(LStoneBacks$Tape;LStoneBacks$Valley;)Z -/
set_option maxRecDepth 8000 in
theorem tr_123_0 {d : Nat} {h : mxH} {Q : mxO → mxH → Prop} {a : Nat} (G : mxG h) (hVa : (mxT a).1 = 9) (H : (vp_in (mx_i h 101 3) 401 ∧ ((((mx_r h 106 (mx_i h 101 3).toNatClampNeg) = 0 ∨ (3 ≤ (mx_r h 106 (mx_i h 101 3).toNatClampNeg) ∧ (mx_r h 106 (mx_i h 101 3).toNatClampNeg) < 29)) ∧ (3 = 0 ∨ (3 ≤ 3 ∧ 3 < 29))) ∧ True) ∧ (((V_95 h 3) = 0 → (((((mx_r h 106 (mx_i h 101 3).toNatClampNeg) = 0 ∨ (3 ≤ (mx_r h 106 (mx_i h 101 3).toNatClampNeg) ∧ (mx_r h 106 (mx_i h 101 3).toNatClampNeg) < 29)) ∧ (6 = 0 ∨ (3 ≤ 6 ∧ 6 < 29))) ∧ True) ∧ (((V_95 h 6) = 0 → (okC h ∧ (3 ≤ 26 ∧ 26 < 29) ∧ (∀ (x8 : Int32) (h9 : mxH), p96 26 h x8 h9 → ((x8 = 0 → (okC h9 ∧ (3 ≤ 11 ∧ 11 < 29) ∧ (∀ (x15 : Int32) (h16 : mxH), p96 11 h9 x15 h16 → ((x15 = 0 → (okC h16 ∧ (3 ≤ 12 ∧ 12 < 29) ∧ (∀ (x22 : Int32) (h23 : mxH), p96 12 h16 x22 h23 → ((x22 = 0 → (okC h23 ∧ (3 ≤ 28 ∧ 28 < 29) ∧ (∀ (x29 : Int32) (h30 : mxH), p96 28 h23 x29 h30 → ((x29 = 0 → Q (.inl (some (.int 0))) h30) ∧ (¬ x29 = 0 → (okV h30 a ∧ (∀ (x35 : Int32) (h36 : mxH), pV vHou a h30 x35 h36 → (∀ (v39 : Int32), v39 = ((if x35 = 0 then 0 else 1) : Int32) → Q (.inl (some (.int v39))) h36)))))))) ∧ (¬ x22 = 0 → (okV h23 a ∧ (∀ (x42 : Int32) (h43 : mxH), pV vLim a h23 x42 h43 → ((x42 = 0 ∨ x42 = 1) ∧ Q (.inl (some (.int x42))) h43)))))))) ∧ (¬ x15 = 0 → (okV h16 a ∧ (∀ (x48 : Int32) (h49 : mxH), pV vPor a h16 x48 h49 → ((x48 = 0 ∨ x48 = 1) ∧ Q (.inl (some (.int x48))) h49)))))))) ∧ (¬ x8 = 0 → (okV h9 a ∧ (∀ (x54 : Int32) (h55 : mxH), pV vSlo a h9 x54 h55 → ((x54 = 0 ∨ x54 = 1) ∧ Q (.inl (some (.int x54))) h55)))))))) ∧ (¬ (V_95 h 6) = 0 → (((V_67 h a) = 0 → (okW cSto h a ∧ (∀ (x61 : Int32) (h62 : mxH), pW' cSto vSto a h x61 h62 → (∀ (v65 : Int32), v65 = ((if x61 = 0 then 0 else 1) : Int32) → Q (.inl (some (.int v65))) h62)))) ∧ (¬ (V_67 h a) = 0 → Q (.inl (some (.int 0))) h)))))) ∧ (¬ (V_95 h 3) = 0 → (((mx_i h (a + 1) 0) < 6 → (okW cPer h a ∧ (∀ (x69 : Int32) (h70 : mxH), pW' cPer vPer a h x69 h70 → (∀ (v73 : Int32), v73 = ((if x69 = 0 then 0 else 1) : Int32) → Q (.inl (some (.int v73))) h70)))) ∧ (¬ (mx_i h (a + 1) 0) < 6 → Q (.inl (some (.int 0))) h)))))) : mx_wp (d + 4) 123 0 (mx_fr 123 [.ref 101, .ref a]) [] h Q := by
  show mx_wp (d + 4) 123 0 [some (.ref 101), some (.ref a)] [] h Q
  refine wp_steps (i' := 2) (ls' := [some (.ref 101), some (.ref a)]) (st' := [.ref 3, .ref 101]) (h' := h) (P := True) 2 rfl rfl trivial ?_
  obtain ⟨o1, o2, H⟩ := H
  refine wp_call (b := false) (y' := 95) (as := [.ref 101, .ref 3]) (rest := []) (P := ((mxT 101).1 = mxRc 95 ∧ mxG h)) rfl (by with_unfolding_all rfl) ⟨(congrArg Prod.fst sT_101), G⟩ (Nat.le_of_ble_eq_true rfl) (sp_95 G o1 o2 ?_)
  show mx_wp (d + 4) 123 3 [some (.ref 101), some (.ref a)] [.int (V_95 h 3)] h Q
  refine wp_br (P := True) (c := (V_95 h 3) = 0) (t := 17) (st' := []) rfl rfl trivial (fun c3 => ?_) (fun c3 => ?_)
  · skip
    have H := H.1 c3
    refine wp_steps (i' := 19) (ls' := [some (.ref 101), some (.ref a)]) (st' := [.ref 6, .ref 101]) (h' := h) (P := True) 2 rfl rfl trivial ?_
    obtain ⟨o4, H⟩ := H
    refine wp_call (b := false) (y' := 95) (as := [.ref 101, .ref 6]) (rest := []) (P := ((mxT 101).1 = mxRc 95 ∧ mxG h)) rfl (by with_unfolding_all rfl) ⟨(congrArg Prod.fst sT_101), G⟩ (Nat.le_of_ble_eq_true rfl) (sp_95 G o1 o4 ?_)
    show mx_wp (d + 4) 123 20 [some (.ref 101), some (.ref a)] [.int (V_95 h 6)] h Q
    refine wp_br (P := True) (c := (V_95 h 6) = 0) (t := 33) (st' := []) rfl rfl trivial (fun c5 => ?_) (fun c5 => ?_)
    · skip
      have H := H.1 c5
      refine wp_steps (i' := 35) (ls' := [some (.ref 101), some (.ref a)]) (st' := [.ref 26, .ref 101]) (h' := h) (P := True) 2 rfl rfl trivial ?_
      obtain ⟨o6, o7, H⟩ := H
      refine wp_call (b := false) (y' := 96) (as := [.ref 101, .ref 26]) (rest := []) (P := ((mxT 101).1 = mxRc 96 ∧ mxG h)) rfl (by with_unfolding_all rfl) ⟨(congrArg Prod.fst sT_101), G⟩ (Nat.le_of_ble_eq_true rfl) (spm_96 G o6 o7 ?_)
      intro x8 h9 p10
      show mx_wp (d + 4) 123 36 [some (.ref 101), some (.ref a)] [.int x8] h9 Q
      have H := H x8 h9 p10
      have G11 : mxG h9 := mxK_G (mvC_K p10.1) G
      refine wp_br (P := True) (c := x8 = 0) (t := 41) (st' := []) rfl rfl trivial (fun c12 => ?_) (fun c12 => ?_)
      · skip
        have H := H.1 c12
        refine wp_steps (i' := 43) (ls' := [some (.ref 101), some (.ref a)]) (st' := [.ref 11, .ref 101]) (h' := h9) (P := True) 2 rfl rfl trivial ?_
        obtain ⟨o13, o14, H⟩ := H
        refine wp_call (b := false) (y' := 96) (as := [.ref 101, .ref 11]) (rest := []) (P := ((mxT 101).1 = mxRc 96 ∧ mxG h9)) rfl (by with_unfolding_all rfl) ⟨(congrArg Prod.fst sT_101), G11⟩ (Nat.le_of_ble_eq_true rfl) (spm_96 G11 o13 o14 ?_)
        intro x15 h16 p17
        show mx_wp (d + 4) 123 44 [some (.ref 101), some (.ref a)] [.int x15] h16 Q
        have H := H x15 h16 p17
        have G18 : mxG h16 := mxK_G (mvC_K p17.1) G11
        refine wp_br (P := True) (c := x15 = 0) (t := 49) (st' := []) rfl rfl trivial (fun c19 => ?_) (fun c19 => ?_)
        · skip
          have H := H.1 c19
          refine wp_steps (i' := 51) (ls' := [some (.ref 101), some (.ref a)]) (st' := [.ref 12, .ref 101]) (h' := h16) (P := True) 2 rfl rfl trivial ?_
          obtain ⟨o20, o21, H⟩ := H
          refine wp_call (b := false) (y' := 96) (as := [.ref 101, .ref 12]) (rest := []) (P := ((mxT 101).1 = mxRc 96 ∧ mxG h16)) rfl (by with_unfolding_all rfl) ⟨(congrArg Prod.fst sT_101), G18⟩ (Nat.le_of_ble_eq_true rfl) (spm_96 G18 o20 o21 ?_)
          intro x22 h23 p24
          show mx_wp (d + 4) 123 52 [some (.ref 101), some (.ref a)] [.int x22] h23 Q
          have H := H x22 h23 p24
          have G25 : mxG h23 := mxK_G (mvC_K p24.1) G18
          refine wp_br (P := True) (c := x22 = 0) (t := 57) (st' := []) rfl rfl trivial (fun c26 => ?_) (fun c26 => ?_)
          · skip
            have H := H.1 c26
            refine wp_steps (i' := 59) (ls' := [some (.ref 101), some (.ref a)]) (st' := [.ref 28, .ref 101]) (h' := h23) (P := True) 2 rfl rfl trivial ?_
            obtain ⟨o27, o28, H⟩ := H
            refine wp_call (b := false) (y' := 96) (as := [.ref 101, .ref 28]) (rest := []) (P := ((mxT 101).1 = mxRc 96 ∧ mxG h23)) rfl (by with_unfolding_all rfl) ⟨(congrArg Prod.fst sT_101), G25⟩ (Nat.le_of_ble_eq_true rfl) (spm_96 G25 o27 o28 ?_)
            intro x29 h30 p31
            show mx_wp (d + 4) 123 60 [some (.ref 101), some (.ref a)] [.int x29] h30 Q
            have H := H x29 h30 p31
            have G32 : mxG h30 := mxK_G (mvC_K p31.1) G25
            refine wp_br (P := True) (c := x29 = 0) (t := 67) (st' := []) rfl rfl trivial (fun c33 => ?_) (fun c33 => ?_)
            · skip
              have H := H.1 c33
              refine wp_steps (i' := 68) (ls' := [some (.ref 101), some (.ref a)]) (st' := [.int 0]) (h' := h30) (P := True) 1 rfl rfl trivial ?_
              exact wp_end (o := .inl (some (.int 0))) (h' := h30) (P := ((0 : Int32) = 0 ∨ (0 : Int32) = 1)) rfl rfl (Or.inl rfl) H
            · skip
              have H := H.2 c33
              refine wp_steps (i' := 63) (ls' := [some (.ref 101), some (.ref a)]) (st' := [.ref a, .ref 101]) (h' := h30) (P := True) 2 rfl rfl trivial ?_
              obtain ⟨o34, H⟩ := H
              refine wp_call (b := false) (y' := 130) (as := [.ref 101, .ref a]) (rest := []) (P := True) rfl (by with_unfolding_all rfl) trivial (Nat.le_of_ble_eq_true rfl) (sp_130 G32 hVa o34 ?_)
              intro x35 h36 p37
              show mx_wp (d + 4) 123 64 [some (.ref 101), some (.ref a)] [.int x35] h36 Q
              have H := H x35 h36 p37
              have G38 : mxG h36 := mxU_G p37.1.1 G32
              have J : ∀ (v39 : Int32) (ev39 : v39 = ((if x35 = 0 then 0 else 1) : Int32)), mx_wp (d + 4) 123 68 [some (.ref 101), some (.ref a)] [.int v39] h36 Q := by
                intro v39 ev39
                have H := H v39 ev39
                exact wp_end (o := .inl (some (.int v39))) (h' := h36) (P := (v39 = 0 ∨ v39 = 1)) rfl rfl (b01 ev39 (by repeat' (first | exact Or.inl rfl | exact Or.inr rfl | split))) H
              refine wp_br (P := True) (c := x35 = 0) (t := 67) (st' := []) rfl rfl trivial (fun c40 => ?_) (fun c40 => ?_)
              · skip
                refine wp_steps (i' := 68) (ls' := [some (.ref 101), some (.ref a)]) (st' := [.int 0]) (h' := h36) (P := True) 1 rfl rfl trivial ?_
                exact J _ (by rw [if_pos c40])
              · skip
                refine wp_steps (i' := 66) (ls' := [some (.ref 101), some (.ref a)]) (st' := [.int 1]) (h' := h36) (P := True) 1 rfl rfl trivial ?_
                refine wp_J (j := 68) (st' := [.int 1]) rfl rfl ?_
                exact J _ (by rw [if_neg c40])
          · skip
            have H := H.2 c26
            refine wp_steps (i' := 55) (ls' := [some (.ref 101), some (.ref a)]) (st' := [.ref a, .ref 101]) (h' := h23) (P := True) 2 rfl rfl trivial ?_
            obtain ⟨o41, H⟩ := H
            refine wp_call (b := false) (y' := 129) (as := [.ref 101, .ref a]) (rest := []) (P := True) rfl (by with_unfolding_all rfl) trivial (Nat.le_of_ble_eq_true rfl) (sp_129 G25 hVa o41 ?_)
            intro x42 h43 p44
            show mx_wp (d + 4) 123 56 [some (.ref 101), some (.ref a)] [.int x42] h43 Q
            have H := H x42 h43 p44
            have G45 : mxG h43 := mxU_G p44.1.1 G25
            obtain ⟨o46, H⟩ := H
            exact wp_end (o := .inl (some (.int x42))) (h' := h43) (P := (x42 = 0 ∨ x42 = 1)) rfl rfl o46 H
        · skip
          have H := H.2 c19
          refine wp_steps (i' := 47) (ls' := [some (.ref 101), some (.ref a)]) (st' := [.ref a, .ref 101]) (h' := h16) (P := True) 2 rfl rfl trivial ?_
          obtain ⟨o47, H⟩ := H
          refine wp_call (b := false) (y' := 128) (as := [.ref 101, .ref a]) (rest := []) (P := True) rfl (by with_unfolding_all rfl) trivial (Nat.le_of_ble_eq_true rfl) (sp_128 G18 hVa o47 ?_)
          intro x48 h49 p50
          show mx_wp (d + 4) 123 48 [some (.ref 101), some (.ref a)] [.int x48] h49 Q
          have H := H x48 h49 p50
          have G51 : mxG h49 := mxU_G p50.1.1 G18
          obtain ⟨o52, H⟩ := H
          exact wp_end (o := .inl (some (.int x48))) (h' := h49) (P := (x48 = 0 ∨ x48 = 1)) rfl rfl o52 H
      · skip
        have H := H.2 c12
        refine wp_steps (i' := 39) (ls' := [some (.ref 101), some (.ref a)]) (st' := [.ref a, .ref 101]) (h' := h9) (P := True) 2 rfl rfl trivial ?_
        obtain ⟨o53, H⟩ := H
        refine wp_call (b := false) (y' := 127) (as := [.ref 101, .ref a]) (rest := []) (P := True) rfl (by with_unfolding_all rfl) trivial (Nat.le_of_ble_eq_true rfl) (sp_127 G11 hVa o53 ?_)
        intro x54 h55 p56
        show mx_wp (d + 4) 123 40 [some (.ref 101), some (.ref a)] [.int x54] h55 Q
        have H := H x54 h55 p56
        have G57 : mxG h55 := mxU_G p56.1.1 G11
        obtain ⟨o58, H⟩ := H
        exact wp_end (o := .inl (some (.int x54))) (h' := h55) (P := (x54 = 0 ∨ x54 = 1)) rfl rfl o58 H
    · skip
      have H := H.2 c5
      refine wp_steps (i' := 23) (ls' := [some (.ref 101), some (.ref a)]) (st' := [.ref (a + 7)]) (h' := h) (P := ((mxT a).1 = 9 ∧ mxG h) ∧ True) 2 rfl rfl ⟨⟨(congrArg Prod.fst (sV_0 hVa)), G⟩, trivial⟩ ?_
      refine wp_call (b := false) (y' := 67) (as := [.ref (a + 7)]) (rest := []) (P := ((mxT (a + 7)).1 = mxRc 67 ∧ mxG h)) rfl (by with_unfolding_all rfl) ⟨(congrArg Prod.fst (sV_7 hVa)), G⟩ (Nat.le_of_ble_eq_true rfl) (sp_67 G hVa ?_)
      show mx_wp (d + 4) 123 24 [some (.ref 101), some (.ref a)] [.int (V_67 h a)] h Q
      refine wp_br (P := True) (c := ¬ (V_67 h a) = 0) (t := 31) (st' := []) rfl rfl trivial (fun c59 => ?_) (fun c59 => ?_)
      · skip
        have H := H.2 c59
        refine wp_steps (i' := 32) (ls' := [some (.ref 101), some (.ref a)]) (st' := [.int 0]) (h' := h) (P := True) 1 rfl rfl trivial ?_
        exact wp_end (o := .inl (some (.int 0))) (h' := h) (P := ((0 : Int32) = 0 ∨ (0 : Int32) = 1)) rfl rfl (Or.inl rfl) H
      · have c59 := Decidable.of_not_not c59
        have H := H.1 c59
        refine wp_steps (i' := 27) (ls' := [some (.ref 101), some (.ref a)]) (st' := [.ref a, .ref 101]) (h' := h) (P := True) 2 rfl rfl trivial ?_
        obtain ⟨o60, H⟩ := H
        refine wp_call (b := false) (y' := 125) (as := [.ref 101, .ref a]) (rest := []) (P := True) rfl (by with_unfolding_all rfl) trivial (Nat.le_of_ble_eq_true rfl) (sp_125 G hVa o60 ?_)
        intro x61 h62 p63
        show mx_wp (d + 4) 123 28 [some (.ref 101), some (.ref a)] [.int x61] h62 Q
        have H := H x61 h62 p63
        have G64 : mxG h62 := mxU_G p63.1.1 G
        have J : ∀ (v65 : Int32) (ev65 : v65 = ((if x61 = 0 then 0 else 1) : Int32)), mx_wp (d + 4) 123 32 [some (.ref 101), some (.ref a)] [.int v65] h62 Q := by
          intro v65 ev65
          have H := H v65 ev65
          exact wp_end (o := .inl (some (.int v65))) (h' := h62) (P := (v65 = 0 ∨ v65 = 1)) rfl rfl (b01 ev65 (by repeat' (first | exact Or.inl rfl | exact Or.inr rfl | split))) H
        refine wp_br (P := True) (c := x61 = 0) (t := 31) (st' := []) rfl rfl trivial (fun c66 => ?_) (fun c66 => ?_)
        · skip
          refine wp_steps (i' := 32) (ls' := [some (.ref 101), some (.ref a)]) (st' := [.int 0]) (h' := h62) (P := True) 1 rfl rfl trivial ?_
          exact J _ (by rw [if_pos c66])
        · skip
          refine wp_steps (i' := 30) (ls' := [some (.ref 101), some (.ref a)]) (st' := [.int 1]) (h' := h62) (P := True) 1 rfl rfl trivial ?_
          refine wp_J (j := 32) (st' := [.int 1]) rfl rfl ?_
          exact J _ (by rw [if_neg c66])
  · skip
    have H := H.2 c3
    refine wp_steps (i' := 8) (ls' := [some (.ref 101), some (.ref a)]) (st' := [.int 6, .int (mx_i h (a + 1) 0)]) (h' := h) (P := ((mxT a).1 = 9 ∧ mxG h) ∧ ((mxT (a + 1)).1 = 5 ∧ mxG h) ∧ True) 4 rfl rfl ⟨⟨(congrArg Prod.fst (sV_0 hVa)), G⟩, ⟨(congrArg Prod.fst (sV_1 hVa)), G⟩, trivial⟩ ?_
    refine wp_br (P := True) (c := 6 ≤ (mx_i h (a + 1) 0)) (t := 15) (st' := []) rfl rfl trivial (fun c67 => ?_) (fun c67 => ?_)
    · have c67 := Int32.not_lt.mpr c67
      have H := H.2 c67
      refine wp_steps (i' := 16) (ls' := [some (.ref 101), some (.ref a)]) (st' := [.int 0]) (h' := h) (P := True) 1 rfl rfl trivial ?_
      exact wp_end (o := .inl (some (.int 0))) (h' := h) (P := ((0 : Int32) = 0 ∨ (0 : Int32) = 1)) rfl rfl (Or.inl rfl) H
    · have c67 := Int32.not_le.mp c67
      have H := H.1 c67
      refine wp_steps (i' := 11) (ls' := [some (.ref 101), some (.ref a)]) (st' := [.ref a, .ref 101]) (h' := h) (P := True) 2 rfl rfl trivial ?_
      obtain ⟨o68, H⟩ := H
      refine wp_call (b := false) (y' := 124) (as := [.ref 101, .ref a]) (rest := []) (P := True) rfl (by with_unfolding_all rfl) trivial (Nat.le_of_ble_eq_true rfl) (sp_124 G hVa o68 ?_)
      intro x69 h70 p71
      show mx_wp (d + 4) 123 12 [some (.ref 101), some (.ref a)] [.int x69] h70 Q
      have H := H x69 h70 p71
      have G72 : mxG h70 := mxU_G p71.1.1 G
      have J : ∀ (v73 : Int32) (ev73 : v73 = ((if x69 = 0 then 0 else 1) : Int32)), mx_wp (d + 4) 123 16 [some (.ref 101), some (.ref a)] [.int v73] h70 Q := by
        intro v73 ev73
        have H := H v73 ev73
        exact wp_end (o := .inl (some (.int v73))) (h' := h70) (P := (v73 = 0 ∨ v73 = 1)) rfl rfl (b01 ev73 (by repeat' (first | exact Or.inl rfl | exact Or.inr rfl | split))) H
      refine wp_br (P := True) (c := x69 = 0) (t := 15) (st' := []) rfl rfl trivial (fun c74 => ?_) (fun c74 => ?_)
      · skip
        refine wp_steps (i' := 16) (ls' := [some (.ref 101), some (.ref a)]) (st' := [.int 0]) (h' := h70) (P := True) 1 rfl rfl trivial ?_
        exact J _ (by rw [if_pos c74])
      · skip
        refine wp_steps (i' := 14) (ls' := [some (.ref 101), some (.ref a)]) (st' := [.int 1]) (h' := h70) (P := True) 1 rfl rfl trivial ?_
        refine wp_J (j := 16) (st' := [.int 1]) rfl rfl ?_
        exact J _ (by rw [if_neg c74])
/-! 217: StoneBacksModel.personLine(I)V -/
set_option maxRecDepth 8000 in
theorem tr_217_0 {d : Nat} {h : mxH} {Q : mxO → mxH → Prop} {i1 : Int32} (G : mxG h)  (H : (((mx_i h 382 3) = 6 → (∀ h134, h134 = W_213 h i1 → (okT h134 ∧ (∀ (x139 : Int32) (h140 : mxH), p215 (0 : Int32) (999 : Int32) h134 x139 h140 → (okT h140 ∧ (30 ≤ 72 ∧ 72 < 82 ∧ 72 % 2 = 0) ∧ (∀ (x145 : Int32) (h146 : mxH), p216 72 (1 : Int32) (60 : Int32) h140 x145 h146 → (okT h146 ∧ (30 ≤ 34 ∧ 34 < 82 ∧ 34 % 2 = 0) ∧ (∀ (x151 : Int32) (h152 : mxH), p216 34 (0 : Int32) (11 : Int32) h146 x151 h152 → (((mx_i h152 381 12) = (-1) → (okT h152 ∧ (30 ≤ 32 ∧ 32 < 82 ∧ 32 % 2 = 0) ∧ (∀ (x192 : Int32) (h193 : mxH), p212 32 h152 x192 h193 → ((x192 = 0 → (((mx_i h193 381 12) = (-1) → (vp_in ((33 + (6 * (mx_i h193 382 3))) + (0 : Int32)) 769 ∧ (∀ h199, h199 = W_197 h193 (mx_i h193 382 3) (0 : Int32) x139 → (vp_in ((33 + (6 * (mx_i h193 382 3))) + (1 : Int32)) 769 ∧ (∀ h204, h204 = W_197 h199 (mx_i h193 382 3) (1 : Int32) x145 → (vp_in ((33 + (6 * (mx_i h193 382 3))) + (2 : Int32)) 769 ∧ (∀ h209, h209 = W_197 h204 (mx_i h193 382 3) (2 : Int32) x151 → (vp_in ((33 + (6 * (mx_i h193 382 3))) + (3 : Int32)) 769 ∧ (∀ h214, h214 = W_197 h209 (mx_i h193 382 3) (3 : Int32) x151 → (vp_in ((33 + (6 * (mx_i h193 382 3))) + (4 : Int32)) 769 ∧ (∀ h219, h219 = W_197 h214 (mx_i h193 382 3) (4 : Int32) (0 : Int32) → (vp_in ((33 + (6 * (mx_i h193 382 3))) + (5 : Int32)) 769 ∧ (∀ h224, h224 = W_197 h219 (mx_i h193 382 3) (5 : Int32) (0 : Int32) → (∀ h228, h228 = mx_wi h224 382 3 ((mx_i h224 382 3) + 1) → Q (.inl none) h228)))))))))))))) ∧ (¬ (mx_i h193 381 12) = (-1) → Q (.inl none) h193))) ∧ (¬ x192 = 0 → (okT h193 ∧ (∀ (x232 : Int32) (h233 : mxH), p215 (0 : Int32) (11 : Int32) h193 x232 h233 → (((mx_i h233 381 12) = (-1) → (vp_in ((33 + (6 * (mx_i h233 382 3))) + (0 : Int32)) 769 ∧ (∀ h238, h238 = W_197 h233 (mx_i h233 382 3) (0 : Int32) x139 → (vp_in ((33 + (6 * (mx_i h233 382 3))) + (1 : Int32)) 769 ∧ (∀ h243, h243 = W_197 h238 (mx_i h233 382 3) (1 : Int32) x145 → (vp_in ((33 + (6 * (mx_i h233 382 3))) + (2 : Int32)) 769 ∧ (∀ h248, h248 = W_197 h243 (mx_i h233 382 3) (2 : Int32) x151 → (vp_in ((33 + (6 * (mx_i h233 382 3))) + (3 : Int32)) 769 ∧ (∀ h253, h253 = W_197 h248 (mx_i h233 382 3) (3 : Int32) x232 → (vp_in ((33 + (6 * (mx_i h233 382 3))) + (4 : Int32)) 769 ∧ (∀ h258, h258 = W_197 h253 (mx_i h233 382 3) (4 : Int32) (0 : Int32) → (vp_in ((33 + (6 * (mx_i h233 382 3))) + (5 : Int32)) 769 ∧ (∀ h263, h263 = W_197 h258 (mx_i h233 382 3) (5 : Int32) (0 : Int32) → (∀ h267, h267 = mx_wi h263 382 3 ((mx_i h263 382 3) + 1) → Q (.inl none) h267)))))))))))))) ∧ (¬ (mx_i h233 381 12) = (-1) → Q (.inl none) h233))))))))) ∧ (¬ (mx_i h152 381 12) = (-1) → (((mx_i h152 381 12) = (-1) → (vp_in ((33 + (6 * (mx_i h152 382 3))) + (0 : Int32)) 769 ∧ (∀ h158, h158 = W_197 h152 (mx_i h152 382 3) (0 : Int32) x139 → (vp_in ((33 + (6 * (mx_i h152 382 3))) + (1 : Int32)) 769 ∧ (∀ h163, h163 = W_197 h158 (mx_i h152 382 3) (1 : Int32) x145 → (vp_in ((33 + (6 * (mx_i h152 382 3))) + (2 : Int32)) 769 ∧ (∀ h168, h168 = W_197 h163 (mx_i h152 382 3) (2 : Int32) x151 → (vp_in ((33 + (6 * (mx_i h152 382 3))) + (3 : Int32)) 769 ∧ (∀ h173, h173 = W_197 h168 (mx_i h152 382 3) (3 : Int32) x151 → (vp_in ((33 + (6 * (mx_i h152 382 3))) + (4 : Int32)) 769 ∧ (∀ h178, h178 = W_197 h173 (mx_i h152 382 3) (4 : Int32) (0 : Int32) → (vp_in ((33 + (6 * (mx_i h152 382 3))) + (5 : Int32)) 769 ∧ (∀ h183, h183 = W_197 h178 (mx_i h152 382 3) (5 : Int32) (0 : Int32) → (∀ h187, h187 = mx_wi h183 382 3 ((mx_i h183 382 3) + 1) → Q (.inl none) h187)))))))))))))) ∧ (¬ (mx_i h152 381 12) = (-1) → Q (.inl none) h152)))))))))))) ∧ (¬ (mx_i h 382 3) = 6 → (okT h ∧ (∀ (x3 : Int32) (h4 : mxH), p215 (0 : Int32) (999 : Int32) h x3 h4 → (okT h4 ∧ (30 ≤ 72 ∧ 72 < 82 ∧ 72 % 2 = 0) ∧ (∀ (x9 : Int32) (h10 : mxH), p216 72 (1 : Int32) (60 : Int32) h4 x9 h10 → (okT h10 ∧ (30 ≤ 34 ∧ 34 < 82 ∧ 34 % 2 = 0) ∧ (∀ (x15 : Int32) (h16 : mxH), p216 34 (0 : Int32) (11 : Int32) h10 x15 h16 → (((mx_i h16 381 12) = (-1) → (okT h16 ∧ (30 ≤ 32 ∧ 32 < 82 ∧ 32 % 2 = 0) ∧ (∀ (x56 : Int32) (h57 : mxH), p212 32 h16 x56 h57 → ((x56 = 0 → (((mx_i h57 381 12) = (-1) → (vp_in ((33 + (6 * (mx_i h57 382 3))) + (0 : Int32)) 769 ∧ (∀ h63, h63 = W_197 h57 (mx_i h57 382 3) (0 : Int32) x3 → (vp_in ((33 + (6 * (mx_i h57 382 3))) + (1 : Int32)) 769 ∧ (∀ h68, h68 = W_197 h63 (mx_i h57 382 3) (1 : Int32) x9 → (vp_in ((33 + (6 * (mx_i h57 382 3))) + (2 : Int32)) 769 ∧ (∀ h73, h73 = W_197 h68 (mx_i h57 382 3) (2 : Int32) x15 → (vp_in ((33 + (6 * (mx_i h57 382 3))) + (3 : Int32)) 769 ∧ (∀ h78, h78 = W_197 h73 (mx_i h57 382 3) (3 : Int32) x15 → (vp_in ((33 + (6 * (mx_i h57 382 3))) + (4 : Int32)) 769 ∧ (∀ h83, h83 = W_197 h78 (mx_i h57 382 3) (4 : Int32) (0 : Int32) → (vp_in ((33 + (6 * (mx_i h57 382 3))) + (5 : Int32)) 769 ∧ (∀ h88, h88 = W_197 h83 (mx_i h57 382 3) (5 : Int32) (0 : Int32) → (∀ h92, h92 = mx_wi h88 382 3 ((mx_i h88 382 3) + 1) → Q (.inl none) h92)))))))))))))) ∧ (¬ (mx_i h57 381 12) = (-1) → Q (.inl none) h57))) ∧ (¬ x56 = 0 → (okT h57 ∧ (∀ (x96 : Int32) (h97 : mxH), p215 (0 : Int32) (11 : Int32) h57 x96 h97 → (((mx_i h97 381 12) = (-1) → (vp_in ((33 + (6 * (mx_i h97 382 3))) + (0 : Int32)) 769 ∧ (∀ h102, h102 = W_197 h97 (mx_i h97 382 3) (0 : Int32) x3 → (vp_in ((33 + (6 * (mx_i h97 382 3))) + (1 : Int32)) 769 ∧ (∀ h107, h107 = W_197 h102 (mx_i h97 382 3) (1 : Int32) x9 → (vp_in ((33 + (6 * (mx_i h97 382 3))) + (2 : Int32)) 769 ∧ (∀ h112, h112 = W_197 h107 (mx_i h97 382 3) (2 : Int32) x15 → (vp_in ((33 + (6 * (mx_i h97 382 3))) + (3 : Int32)) 769 ∧ (∀ h117, h117 = W_197 h112 (mx_i h97 382 3) (3 : Int32) x96 → (vp_in ((33 + (6 * (mx_i h97 382 3))) + (4 : Int32)) 769 ∧ (∀ h122, h122 = W_197 h117 (mx_i h97 382 3) (4 : Int32) (0 : Int32) → (vp_in ((33 + (6 * (mx_i h97 382 3))) + (5 : Int32)) 769 ∧ (∀ h127, h127 = W_197 h122 (mx_i h97 382 3) (5 : Int32) (0 : Int32) → (∀ h131, h131 = mx_wi h127 382 3 ((mx_i h127 382 3) + 1) → Q (.inl none) h131)))))))))))))) ∧ (¬ (mx_i h97 381 12) = (-1) → Q (.inl none) h97))))))))) ∧ (¬ (mx_i h16 381 12) = (-1) → (((mx_i h16 381 12) = (-1) → (vp_in ((33 + (6 * (mx_i h16 382 3))) + (0 : Int32)) 769 ∧ (∀ h22, h22 = W_197 h16 (mx_i h16 382 3) (0 : Int32) x3 → (vp_in ((33 + (6 * (mx_i h16 382 3))) + (1 : Int32)) 769 ∧ (∀ h27, h27 = W_197 h22 (mx_i h16 382 3) (1 : Int32) x9 → (vp_in ((33 + (6 * (mx_i h16 382 3))) + (2 : Int32)) 769 ∧ (∀ h32, h32 = W_197 h27 (mx_i h16 382 3) (2 : Int32) x15 → (vp_in ((33 + (6 * (mx_i h16 382 3))) + (3 : Int32)) 769 ∧ (∀ h37, h37 = W_197 h32 (mx_i h16 382 3) (3 : Int32) x15 → (vp_in ((33 + (6 * (mx_i h16 382 3))) + (4 : Int32)) 769 ∧ (∀ h42, h42 = W_197 h37 (mx_i h16 382 3) (4 : Int32) (0 : Int32) → (vp_in ((33 + (6 * (mx_i h16 382 3))) + (5 : Int32)) 769 ∧ (∀ h47, h47 = W_197 h42 (mx_i h16 382 3) (5 : Int32) (0 : Int32) → (∀ h51, h51 = mx_wi h47 382 3 ((mx_i h47 382 3) + 1) → Q (.inl none) h51)))))))))))))) ∧ (¬ (mx_i h16 381 12) = (-1) → Q (.inl none) h16))))))))))))) : mx_wp (d + 6) 217 0 (mx_fr 217 [.ref 381, .int i1]) [] h Q := by
  show mx_wp (d + 6) 217 0 [some (.ref 381), some (.int i1), none, none, none, none, none] [] h Q
  refine wp_steps (i' := 5) (ls' := [some (.ref 381), some (.int i1), none, none, none, none, none]) (st' := [.int 6, .int (mx_i h 382 3)]) (h' := h) (P := ((mxT 381).1 = 11 ∧ mxG h) ∧ (((mxT 382).1 = 50 ∧ mxG h) ∧ vp_in 3 (mxT 382).2) ∧ True) 5 rfl rfl ⟨⟨(congrArg Prod.fst sT_381), G⟩, (cA sT_382 G (vpl rfl)), trivial⟩ ?_
  refine wp_br (P := True) (c := ¬ (mx_i h 382 3) = 6) (t := 9) (st' := []) rfl rfl trivial (fun c1 => ?_) (fun c1 => ?_)
  · skip
    have H := H.2 c1
    refine wp_steps (i' := 12) (ls' := [some (.ref 381), some (.int i1), none, none, none, none, none]) (st' := [.int 999, .int 0, .ref 381]) (h' := h) (P := True) 3 rfl rfl trivial ?_
    obtain ⟨o2, H⟩ := H
    refine wp_call (b := false) (y' := 215) (as := [.ref 381, .int 0, .int 999]) (rest := []) (P := ((mxT 381).1 = mxRc 215 ∧ mxG h)) rfl (by with_unfolding_all rfl) ⟨(congrArg Prod.fst sT_381), G⟩ (Nat.le_of_ble_eq_true rfl) (sp_215 G o2 ?_)
    intro x3 h4 p5
    show mx_wp (d + 6) 217 13 [some (.ref 381), some (.int i1), none, none, none, none, none] [.int x3] h4 Q
    have H := H x3 h4 p5
    have G6 : mxG h4 := mxK_G p5.1 G
    refine wp_steps (i' := 18) (ls' := [some (.ref 381), some (.int i1), some (.int x3), none, none, none, none]) (st' := [.int 60, .int 1, .ref 72, .ref 381]) (h' := h4) (P := True) 5 rfl rfl trivial ?_
    obtain ⟨o7, o8, H⟩ := H
    refine wp_call (b := false) (y' := 216) (as := [.ref 381, .ref 72, .int 1, .int 60]) (rest := []) (P := ((mxT 381).1 = mxRc 216 ∧ mxG h4)) rfl (by with_unfolding_all rfl) ⟨(congrArg Prod.fst sT_381), G6⟩ (Nat.le_of_ble_eq_true rfl) (sp_216 G6 o7 o8 ?_)
    intro x9 h10 p11
    show mx_wp (d + 6) 217 19 [some (.ref 381), some (.int i1), some (.int x3), none, none, none, none] [.int x9] h10 Q
    have H := H x9 h10 p11
    have G12 : mxG h10 := mxK_G p11.1 G6
    refine wp_steps (i' := 24) (ls' := [some (.ref 381), some (.int i1), some (.int x3), some (.int x9), none, none, none]) (st' := [.int 11, .int 0, .ref 34, .ref 381]) (h' := h10) (P := True) 5 rfl rfl trivial ?_
    obtain ⟨o13, o14, H⟩ := H
    refine wp_call (b := false) (y' := 216) (as := [.ref 381, .ref 34, .int 0, .int 11]) (rest := []) (P := ((mxT 381).1 = mxRc 216 ∧ mxG h10)) rfl (by with_unfolding_all rfl) ⟨(congrArg Prod.fst sT_381), G12⟩ (Nat.le_of_ble_eq_true rfl) (sp_216 G12 o13 o14 ?_)
    intro x15 h16 p17
    show mx_wp (d + 6) 217 25 [some (.ref 381), some (.int i1), some (.int x3), some (.int x9), none, none, none] [.int x15] h16 Q
    have H := H x15 h16 p17
    have G18 : mxG h16 := mxK_G p17.1 G12
    refine wp_steps (i' := 29) (ls' := [some (.ref 381), some (.int i1), some (.int x3), some (.int x9), some (.int x15), none, none]) (st' := [.int (-1), .int (mx_i h16 381 12)]) (h' := h16) (P := ((mxT 381).1 = 11 ∧ mxG h16) ∧ True) 4 rfl rfl ⟨⟨(congrArg Prod.fst sT_381), G18⟩, trivial⟩ ?_
    refine wp_br (P := True) (c := ¬ (mx_i h16 381 12) = (-1)) (t := 39) (st' := []) rfl rfl trivial (fun c19 => ?_) (fun c19 => ?_)
    · skip
      have H := H.2 c19
      refine wp_steps (i' := 44) (ls' := [some (.ref 381), some (.int i1), some (.int x3), some (.int x9), some (.int x15), some (.int x15), none]) (st' := [.int (-1), .int (mx_i h16 381 12)]) (h' := h16) (P := ((mxT 381).1 = 11 ∧ mxG h16) ∧ True) 5 rfl rfl ⟨⟨(congrArg Prod.fst sT_381), G18⟩, trivial⟩ ?_
      refine wp_br (P := True) (c := (mx_i h16 381 12) = (-1)) (t := 46) (st' := []) rfl rfl trivial (fun c20 => ?_) (fun c20 => ?_)
      · skip
        have H := H.1 c20
        refine wp_steps (i' := 55) (ls' := [some (.ref 381), some (.int i1), some (.int x3), some (.int x9), some (.int x15), some (.int x15), some (.int (mx_i h16 382 3))]) (st' := [.int x3, .int 0, .int (mx_i h16 382 3), .ref 381]) (h' := h16) (P := ((mxT 381).1 = 11 ∧ mxG h16) ∧ (((mxT 382).1 = 50 ∧ mxG h16) ∧ vp_in 3 (mxT 382).2) ∧ True) 9 rfl rfl ⟨⟨(congrArg Prod.fst sT_381), G18⟩, (cA sT_382 G18 (vpl rfl)), trivial⟩ ?_
        obtain ⟨o21, H⟩ := H
        refine wp_call (b := false) (y' := 197) (as := [.ref 381, .int (mx_i h16 382 3), .int 0, .int x3]) (rest := []) (P := ((mxT 381).1 = mxRc 197 ∧ mxG h16)) rfl (by with_unfolding_all rfl) ⟨(congrArg Prod.fst sT_381), G18⟩ (Nat.le_of_ble_eq_true rfl) (sp_197 G18 o21 ?_)
        show mx_wp (d + 6) 217 56 [some (.ref 381), some (.int i1), some (.int x3), some (.int x9), some (.int x15), some (.int x15), some (.int (mx_i h16 382 3))] [] (W_197 h16 (mx_i h16 382 3) (0 : Int32) x3) Q
        obtain ⟨h22, e23⟩ : ∃ z9, z9 = W_197 h16 (mx_i h16 382 3) (0 : Int32) x3 := ⟨_, rfl⟩
        rw [← e23]
        have H := H h22 e23
        have K25 : mxK h16 h22 := e23 ▸ KW_197
        have G24 : mxG h22 := mxK_G K25 G18
        refine wp_steps (i' := 60) (ls' := [some (.ref 381), some (.int i1), some (.int x3), some (.int x9), some (.int x15), some (.int x15), some (.int (mx_i h16 382 3))]) (st' := [.int x9, .int 1, .int (mx_i h16 382 3), .ref 381]) (h' := h22) (P := True) 4 rfl rfl trivial ?_
        obtain ⟨o26, H⟩ := H
        refine wp_call (b := false) (y' := 197) (as := [.ref 381, .int (mx_i h16 382 3), .int 1, .int x9]) (rest := []) (P := ((mxT 381).1 = mxRc 197 ∧ mxG h22)) rfl (by with_unfolding_all rfl) ⟨(congrArg Prod.fst sT_381), G24⟩ (Nat.le_of_ble_eq_true rfl) (sp_197 G24 o26 ?_)
        show mx_wp (d + 6) 217 61 [some (.ref 381), some (.int i1), some (.int x3), some (.int x9), some (.int x15), some (.int x15), some (.int (mx_i h16 382 3))] [] (W_197 h22 (mx_i h16 382 3) (1 : Int32) x9) Q
        obtain ⟨h27, e28⟩ : ∃ z9, z9 = W_197 h22 (mx_i h16 382 3) (1 : Int32) x9 := ⟨_, rfl⟩
        rw [← e28]
        have H := H h27 e28
        have K30 : mxK h22 h27 := e28 ▸ KW_197
        have G29 : mxG h27 := mxK_G K30 G24
        refine wp_steps (i' := 65) (ls' := [some (.ref 381), some (.int i1), some (.int x3), some (.int x9), some (.int x15), some (.int x15), some (.int (mx_i h16 382 3))]) (st' := [.int x15, .int 2, .int (mx_i h16 382 3), .ref 381]) (h' := h27) (P := True) 4 rfl rfl trivial ?_
        obtain ⟨o31, H⟩ := H
        refine wp_call (b := false) (y' := 197) (as := [.ref 381, .int (mx_i h16 382 3), .int 2, .int x15]) (rest := []) (P := ((mxT 381).1 = mxRc 197 ∧ mxG h27)) rfl (by with_unfolding_all rfl) ⟨(congrArg Prod.fst sT_381), G29⟩ (Nat.le_of_ble_eq_true rfl) (sp_197 G29 o31 ?_)
        show mx_wp (d + 6) 217 66 [some (.ref 381), some (.int i1), some (.int x3), some (.int x9), some (.int x15), some (.int x15), some (.int (mx_i h16 382 3))] [] (W_197 h27 (mx_i h16 382 3) (2 : Int32) x15) Q
        obtain ⟨h32, e33⟩ : ∃ z9, z9 = W_197 h27 (mx_i h16 382 3) (2 : Int32) x15 := ⟨_, rfl⟩
        rw [← e33]
        have H := H h32 e33
        have K35 : mxK h27 h32 := e33 ▸ KW_197
        have G34 : mxG h32 := mxK_G K35 G29
        refine wp_steps (i' := 70) (ls' := [some (.ref 381), some (.int i1), some (.int x3), some (.int x9), some (.int x15), some (.int x15), some (.int (mx_i h16 382 3))]) (st' := [.int x15, .int 3, .int (mx_i h16 382 3), .ref 381]) (h' := h32) (P := True) 4 rfl rfl trivial ?_
        obtain ⟨o36, H⟩ := H
        refine wp_call (b := false) (y' := 197) (as := [.ref 381, .int (mx_i h16 382 3), .int 3, .int x15]) (rest := []) (P := ((mxT 381).1 = mxRc 197 ∧ mxG h32)) rfl (by with_unfolding_all rfl) ⟨(congrArg Prod.fst sT_381), G34⟩ (Nat.le_of_ble_eq_true rfl) (sp_197 G34 o36 ?_)
        show mx_wp (d + 6) 217 71 [some (.ref 381), some (.int i1), some (.int x3), some (.int x9), some (.int x15), some (.int x15), some (.int (mx_i h16 382 3))] [] (W_197 h32 (mx_i h16 382 3) (3 : Int32) x15) Q
        obtain ⟨h37, e38⟩ : ∃ z9, z9 = W_197 h32 (mx_i h16 382 3) (3 : Int32) x15 := ⟨_, rfl⟩
        rw [← e38]
        have H := H h37 e38
        have K40 : mxK h32 h37 := e38 ▸ KW_197
        have G39 : mxG h37 := mxK_G K40 G34
        refine wp_steps (i' := 75) (ls' := [some (.ref 381), some (.int i1), some (.int x3), some (.int x9), some (.int x15), some (.int x15), some (.int (mx_i h16 382 3))]) (st' := [.int 0, .int 4, .int (mx_i h16 382 3), .ref 381]) (h' := h37) (P := True) 4 rfl rfl trivial ?_
        obtain ⟨o41, H⟩ := H
        refine wp_call (b := false) (y' := 197) (as := [.ref 381, .int (mx_i h16 382 3), .int 4, .int 0]) (rest := []) (P := ((mxT 381).1 = mxRc 197 ∧ mxG h37)) rfl (by with_unfolding_all rfl) ⟨(congrArg Prod.fst sT_381), G39⟩ (Nat.le_of_ble_eq_true rfl) (sp_197 G39 o41 ?_)
        show mx_wp (d + 6) 217 76 [some (.ref 381), some (.int i1), some (.int x3), some (.int x9), some (.int x15), some (.int x15), some (.int (mx_i h16 382 3))] [] (W_197 h37 (mx_i h16 382 3) (4 : Int32) (0 : Int32)) Q
        obtain ⟨h42, e43⟩ : ∃ z9, z9 = W_197 h37 (mx_i h16 382 3) (4 : Int32) (0 : Int32) := ⟨_, rfl⟩
        rw [← e43]
        have H := H h42 e43
        have K45 : mxK h37 h42 := e43 ▸ KW_197
        have G44 : mxG h42 := mxK_G K45 G39
        refine wp_steps (i' := 80) (ls' := [some (.ref 381), some (.int i1), some (.int x3), some (.int x9), some (.int x15), some (.int x15), some (.int (mx_i h16 382 3))]) (st' := [.int 0, .int 5, .int (mx_i h16 382 3), .ref 381]) (h' := h42) (P := True) 4 rfl rfl trivial ?_
        obtain ⟨o46, H⟩ := H
        refine wp_call (b := false) (y' := 197) (as := [.ref 381, .int (mx_i h16 382 3), .int 5, .int 0]) (rest := []) (P := ((mxT 381).1 = mxRc 197 ∧ mxG h42)) rfl (by with_unfolding_all rfl) ⟨(congrArg Prod.fst sT_381), G44⟩ (Nat.le_of_ble_eq_true rfl) (sp_197 G44 o46 ?_)
        show mx_wp (d + 6) 217 81 [some (.ref 381), some (.int i1), some (.int x3), some (.int x9), some (.int x15), some (.int x15), some (.int (mx_i h16 382 3))] [] (W_197 h42 (mx_i h16 382 3) (5 : Int32) (0 : Int32)) Q
        obtain ⟨h47, e48⟩ : ∃ z9, z9 = W_197 h42 (mx_i h16 382 3) (5 : Int32) (0 : Int32) := ⟨_, rfl⟩
        rw [← e48]
        have H := H h47 e48
        have K50 : mxK h42 h47 := e48 ▸ KW_197
        have G49 : mxG h47 := mxK_G K50 G44
        refine wp_steps (i' := 89) (ls' := [some (.ref 381), some (.int i1), some (.int x3), some (.int x9), some (.int x15), some (.int x15), some (.int (mx_i h16 382 3))]) (st' := []) (h' := mx_wi h47 382 3 ((mx_i h47 382 3) + 1)) (P := ((mxT 381).1 = 11 ∧ mxG h47) ∧ (((mxT 382).1 = 50 ∧ mxG h47) ∧ vp_in 3 (mxT 382).2) ∧ (((mxT 382).1 = 50 ∧ mxG h47) ∧ vp_in 3 (mxT 382).2) ∧ True) 8 rfl rfl ⟨⟨(congrArg Prod.fst sT_381), G49⟩, (cA sT_382 G49 (vpl rfl)), (cA sT_382 G49 (vpl rfl)), trivial⟩ ?_
        obtain ⟨h51, e52⟩ : ∃ z9, z9 = mx_wi h47 382 3 ((mx_i h47 382 3) + 1) := ⟨_, rfl⟩
        rw [← e52]
        have H := H h51 e52
        have G53 : mxG h51 := e52 ▸ mxG_wi G49
        exact wp_end (o := .inl none) (h' := h51) (P := True) rfl rfl trivial H
      · skip
        have H := H.2 c20
        exact wp_end (o := .inl none) (h' := h16) (P := True) rfl rfl trivial H
    · have c19 := Decidable.of_not_not c19
      have H := H.1 c19
      refine wp_steps (i' := 32) (ls' := [some (.ref 381), some (.int i1), some (.int x3), some (.int x9), some (.int x15), none, none]) (st' := [.ref 32, .ref 381]) (h' := h16) (P := True) 2 rfl rfl trivial ?_
      obtain ⟨o54, o55, H⟩ := H
      refine wp_call (b := false) (y' := 212) (as := [.ref 381, .ref 32]) (rest := []) (P := ((mxT 381).1 = mxRc 212 ∧ mxG h16)) rfl (by with_unfolding_all rfl) ⟨(congrArg Prod.fst sT_381), G18⟩ (Nat.le_of_ble_eq_true rfl) (sp_212 G18 o54 o55 ?_)
      intro x56 h57 p58
      show mx_wp (d + 6) 217 33 [some (.ref 381), some (.int i1), some (.int x3), some (.int x9), some (.int x15), none, none] [.int x56] h57 Q
      have H := H x56 h57 p58
      have G59 : mxG h57 := mxK_G p58.1 G18
      refine wp_br (P := True) (c := x56 = 0) (t := 39) (st' := []) rfl rfl trivial (fun c60 => ?_) (fun c60 => ?_)
      · skip
        have H := H.1 c60
        refine wp_steps (i' := 44) (ls' := [some (.ref 381), some (.int i1), some (.int x3), some (.int x9), some (.int x15), some (.int x15), none]) (st' := [.int (-1), .int (mx_i h57 381 12)]) (h' := h57) (P := ((mxT 381).1 = 11 ∧ mxG h57) ∧ True) 5 rfl rfl ⟨⟨(congrArg Prod.fst sT_381), G59⟩, trivial⟩ ?_
        refine wp_br (P := True) (c := (mx_i h57 381 12) = (-1)) (t := 46) (st' := []) rfl rfl trivial (fun c61 => ?_) (fun c61 => ?_)
        · skip
          have H := H.1 c61
          refine wp_steps (i' := 55) (ls' := [some (.ref 381), some (.int i1), some (.int x3), some (.int x9), some (.int x15), some (.int x15), some (.int (mx_i h57 382 3))]) (st' := [.int x3, .int 0, .int (mx_i h57 382 3), .ref 381]) (h' := h57) (P := ((mxT 381).1 = 11 ∧ mxG h57) ∧ (((mxT 382).1 = 50 ∧ mxG h57) ∧ vp_in 3 (mxT 382).2) ∧ True) 9 rfl rfl ⟨⟨(congrArg Prod.fst sT_381), G59⟩, (cA sT_382 G59 (vpl rfl)), trivial⟩ ?_
          obtain ⟨o62, H⟩ := H
          refine wp_call (b := false) (y' := 197) (as := [.ref 381, .int (mx_i h57 382 3), .int 0, .int x3]) (rest := []) (P := ((mxT 381).1 = mxRc 197 ∧ mxG h57)) rfl (by with_unfolding_all rfl) ⟨(congrArg Prod.fst sT_381), G59⟩ (Nat.le_of_ble_eq_true rfl) (sp_197 G59 o62 ?_)
          show mx_wp (d + 6) 217 56 [some (.ref 381), some (.int i1), some (.int x3), some (.int x9), some (.int x15), some (.int x15), some (.int (mx_i h57 382 3))] [] (W_197 h57 (mx_i h57 382 3) (0 : Int32) x3) Q
          obtain ⟨h63, e64⟩ : ∃ z9, z9 = W_197 h57 (mx_i h57 382 3) (0 : Int32) x3 := ⟨_, rfl⟩
          rw [← e64]
          have H := H h63 e64
          have K66 : mxK h57 h63 := e64 ▸ KW_197
          have G65 : mxG h63 := mxK_G K66 G59
          refine wp_steps (i' := 60) (ls' := [some (.ref 381), some (.int i1), some (.int x3), some (.int x9), some (.int x15), some (.int x15), some (.int (mx_i h57 382 3))]) (st' := [.int x9, .int 1, .int (mx_i h57 382 3), .ref 381]) (h' := h63) (P := True) 4 rfl rfl trivial ?_
          obtain ⟨o67, H⟩ := H
          refine wp_call (b := false) (y' := 197) (as := [.ref 381, .int (mx_i h57 382 3), .int 1, .int x9]) (rest := []) (P := ((mxT 381).1 = mxRc 197 ∧ mxG h63)) rfl (by with_unfolding_all rfl) ⟨(congrArg Prod.fst sT_381), G65⟩ (Nat.le_of_ble_eq_true rfl) (sp_197 G65 o67 ?_)
          show mx_wp (d + 6) 217 61 [some (.ref 381), some (.int i1), some (.int x3), some (.int x9), some (.int x15), some (.int x15), some (.int (mx_i h57 382 3))] [] (W_197 h63 (mx_i h57 382 3) (1 : Int32) x9) Q
          obtain ⟨h68, e69⟩ : ∃ z9, z9 = W_197 h63 (mx_i h57 382 3) (1 : Int32) x9 := ⟨_, rfl⟩
          rw [← e69]
          have H := H h68 e69
          have K71 : mxK h63 h68 := e69 ▸ KW_197
          have G70 : mxG h68 := mxK_G K71 G65
          refine wp_steps (i' := 65) (ls' := [some (.ref 381), some (.int i1), some (.int x3), some (.int x9), some (.int x15), some (.int x15), some (.int (mx_i h57 382 3))]) (st' := [.int x15, .int 2, .int (mx_i h57 382 3), .ref 381]) (h' := h68) (P := True) 4 rfl rfl trivial ?_
          obtain ⟨o72, H⟩ := H
          refine wp_call (b := false) (y' := 197) (as := [.ref 381, .int (mx_i h57 382 3), .int 2, .int x15]) (rest := []) (P := ((mxT 381).1 = mxRc 197 ∧ mxG h68)) rfl (by with_unfolding_all rfl) ⟨(congrArg Prod.fst sT_381), G70⟩ (Nat.le_of_ble_eq_true rfl) (sp_197 G70 o72 ?_)
          show mx_wp (d + 6) 217 66 [some (.ref 381), some (.int i1), some (.int x3), some (.int x9), some (.int x15), some (.int x15), some (.int (mx_i h57 382 3))] [] (W_197 h68 (mx_i h57 382 3) (2 : Int32) x15) Q
          obtain ⟨h73, e74⟩ : ∃ z9, z9 = W_197 h68 (mx_i h57 382 3) (2 : Int32) x15 := ⟨_, rfl⟩
          rw [← e74]
          have H := H h73 e74
          have K76 : mxK h68 h73 := e74 ▸ KW_197
          have G75 : mxG h73 := mxK_G K76 G70
          refine wp_steps (i' := 70) (ls' := [some (.ref 381), some (.int i1), some (.int x3), some (.int x9), some (.int x15), some (.int x15), some (.int (mx_i h57 382 3))]) (st' := [.int x15, .int 3, .int (mx_i h57 382 3), .ref 381]) (h' := h73) (P := True) 4 rfl rfl trivial ?_
          obtain ⟨o77, H⟩ := H
          refine wp_call (b := false) (y' := 197) (as := [.ref 381, .int (mx_i h57 382 3), .int 3, .int x15]) (rest := []) (P := ((mxT 381).1 = mxRc 197 ∧ mxG h73)) rfl (by with_unfolding_all rfl) ⟨(congrArg Prod.fst sT_381), G75⟩ (Nat.le_of_ble_eq_true rfl) (sp_197 G75 o77 ?_)
          show mx_wp (d + 6) 217 71 [some (.ref 381), some (.int i1), some (.int x3), some (.int x9), some (.int x15), some (.int x15), some (.int (mx_i h57 382 3))] [] (W_197 h73 (mx_i h57 382 3) (3 : Int32) x15) Q
          obtain ⟨h78, e79⟩ : ∃ z9, z9 = W_197 h73 (mx_i h57 382 3) (3 : Int32) x15 := ⟨_, rfl⟩
          rw [← e79]
          have H := H h78 e79
          have K81 : mxK h73 h78 := e79 ▸ KW_197
          have G80 : mxG h78 := mxK_G K81 G75
          refine wp_steps (i' := 75) (ls' := [some (.ref 381), some (.int i1), some (.int x3), some (.int x9), some (.int x15), some (.int x15), some (.int (mx_i h57 382 3))]) (st' := [.int 0, .int 4, .int (mx_i h57 382 3), .ref 381]) (h' := h78) (P := True) 4 rfl rfl trivial ?_
          obtain ⟨o82, H⟩ := H
          refine wp_call (b := false) (y' := 197) (as := [.ref 381, .int (mx_i h57 382 3), .int 4, .int 0]) (rest := []) (P := ((mxT 381).1 = mxRc 197 ∧ mxG h78)) rfl (by with_unfolding_all rfl) ⟨(congrArg Prod.fst sT_381), G80⟩ (Nat.le_of_ble_eq_true rfl) (sp_197 G80 o82 ?_)
          show mx_wp (d + 6) 217 76 [some (.ref 381), some (.int i1), some (.int x3), some (.int x9), some (.int x15), some (.int x15), some (.int (mx_i h57 382 3))] [] (W_197 h78 (mx_i h57 382 3) (4 : Int32) (0 : Int32)) Q
          obtain ⟨h83, e84⟩ : ∃ z9, z9 = W_197 h78 (mx_i h57 382 3) (4 : Int32) (0 : Int32) := ⟨_, rfl⟩
          rw [← e84]
          have H := H h83 e84
          have K86 : mxK h78 h83 := e84 ▸ KW_197
          have G85 : mxG h83 := mxK_G K86 G80
          refine wp_steps (i' := 80) (ls' := [some (.ref 381), some (.int i1), some (.int x3), some (.int x9), some (.int x15), some (.int x15), some (.int (mx_i h57 382 3))]) (st' := [.int 0, .int 5, .int (mx_i h57 382 3), .ref 381]) (h' := h83) (P := True) 4 rfl rfl trivial ?_
          obtain ⟨o87, H⟩ := H
          refine wp_call (b := false) (y' := 197) (as := [.ref 381, .int (mx_i h57 382 3), .int 5, .int 0]) (rest := []) (P := ((mxT 381).1 = mxRc 197 ∧ mxG h83)) rfl (by with_unfolding_all rfl) ⟨(congrArg Prod.fst sT_381), G85⟩ (Nat.le_of_ble_eq_true rfl) (sp_197 G85 o87 ?_)
          show mx_wp (d + 6) 217 81 [some (.ref 381), some (.int i1), some (.int x3), some (.int x9), some (.int x15), some (.int x15), some (.int (mx_i h57 382 3))] [] (W_197 h83 (mx_i h57 382 3) (5 : Int32) (0 : Int32)) Q
          obtain ⟨h88, e89⟩ : ∃ z9, z9 = W_197 h83 (mx_i h57 382 3) (5 : Int32) (0 : Int32) := ⟨_, rfl⟩
          rw [← e89]
          have H := H h88 e89
          have K91 : mxK h83 h88 := e89 ▸ KW_197
          have G90 : mxG h88 := mxK_G K91 G85
          refine wp_steps (i' := 89) (ls' := [some (.ref 381), some (.int i1), some (.int x3), some (.int x9), some (.int x15), some (.int x15), some (.int (mx_i h57 382 3))]) (st' := []) (h' := mx_wi h88 382 3 ((mx_i h88 382 3) + 1)) (P := ((mxT 381).1 = 11 ∧ mxG h88) ∧ (((mxT 382).1 = 50 ∧ mxG h88) ∧ vp_in 3 (mxT 382).2) ∧ (((mxT 382).1 = 50 ∧ mxG h88) ∧ vp_in 3 (mxT 382).2) ∧ True) 8 rfl rfl ⟨⟨(congrArg Prod.fst sT_381), G90⟩, (cA sT_382 G90 (vpl rfl)), (cA sT_382 G90 (vpl rfl)), trivial⟩ ?_
          obtain ⟨h92, e93⟩ : ∃ z9, z9 = mx_wi h88 382 3 ((mx_i h88 382 3) + 1) := ⟨_, rfl⟩
          rw [← e93]
          have H := H h92 e93
          have G94 : mxG h92 := e93 ▸ mxG_wi G90
          exact wp_end (o := .inl none) (h' := h92) (P := True) rfl rfl trivial H
        · skip
          have H := H.2 c61
          exact wp_end (o := .inl none) (h' := h57) (P := True) rfl rfl trivial H
      · skip
        have H := H.2 c60
        refine wp_steps (i' := 37) (ls' := [some (.ref 381), some (.int i1), some (.int x3), some (.int x9), some (.int x15), none, none]) (st' := [.int 11, .int 0, .ref 381]) (h' := h57) (P := True) 3 rfl rfl trivial ?_
        obtain ⟨o95, H⟩ := H
        refine wp_call (b := false) (y' := 215) (as := [.ref 381, .int 0, .int 11]) (rest := []) (P := ((mxT 381).1 = mxRc 215 ∧ mxG h57)) rfl (by with_unfolding_all rfl) ⟨(congrArg Prod.fst sT_381), G59⟩ (Nat.le_of_ble_eq_true rfl) (sp_215 G59 o95 ?_)
        intro x96 h97 p98
        show mx_wp (d + 6) 217 38 [some (.ref 381), some (.int i1), some (.int x3), some (.int x9), some (.int x15), none, none] [.int x96] h97 Q
        have H := H x96 h97 p98
        have G99 : mxG h97 := mxK_G p98.1 G59
        refine wp_J (j := 40) (st' := [.int x96]) rfl rfl ?_
        refine wp_steps (i' := 44) (ls' := [some (.ref 381), some (.int i1), some (.int x3), some (.int x9), some (.int x15), some (.int x96), none]) (st' := [.int (-1), .int (mx_i h97 381 12)]) (h' := h97) (P := ((mxT 381).1 = 11 ∧ mxG h97) ∧ True) 4 rfl rfl ⟨⟨(congrArg Prod.fst sT_381), G99⟩, trivial⟩ ?_
        refine wp_br (P := True) (c := (mx_i h97 381 12) = (-1)) (t := 46) (st' := []) rfl rfl trivial (fun c100 => ?_) (fun c100 => ?_)
        · skip
          have H := H.1 c100
          refine wp_steps (i' := 55) (ls' := [some (.ref 381), some (.int i1), some (.int x3), some (.int x9), some (.int x15), some (.int x96), some (.int (mx_i h97 382 3))]) (st' := [.int x3, .int 0, .int (mx_i h97 382 3), .ref 381]) (h' := h97) (P := ((mxT 381).1 = 11 ∧ mxG h97) ∧ (((mxT 382).1 = 50 ∧ mxG h97) ∧ vp_in 3 (mxT 382).2) ∧ True) 9 rfl rfl ⟨⟨(congrArg Prod.fst sT_381), G99⟩, (cA sT_382 G99 (vpl rfl)), trivial⟩ ?_
          obtain ⟨o101, H⟩ := H
          refine wp_call (b := false) (y' := 197) (as := [.ref 381, .int (mx_i h97 382 3), .int 0, .int x3]) (rest := []) (P := ((mxT 381).1 = mxRc 197 ∧ mxG h97)) rfl (by with_unfolding_all rfl) ⟨(congrArg Prod.fst sT_381), G99⟩ (Nat.le_of_ble_eq_true rfl) (sp_197 G99 o101 ?_)
          show mx_wp (d + 6) 217 56 [some (.ref 381), some (.int i1), some (.int x3), some (.int x9), some (.int x15), some (.int x96), some (.int (mx_i h97 382 3))] [] (W_197 h97 (mx_i h97 382 3) (0 : Int32) x3) Q
          obtain ⟨h102, e103⟩ : ∃ z9, z9 = W_197 h97 (mx_i h97 382 3) (0 : Int32) x3 := ⟨_, rfl⟩
          rw [← e103]
          have H := H h102 e103
          have K105 : mxK h97 h102 := e103 ▸ KW_197
          have G104 : mxG h102 := mxK_G K105 G99
          refine wp_steps (i' := 60) (ls' := [some (.ref 381), some (.int i1), some (.int x3), some (.int x9), some (.int x15), some (.int x96), some (.int (mx_i h97 382 3))]) (st' := [.int x9, .int 1, .int (mx_i h97 382 3), .ref 381]) (h' := h102) (P := True) 4 rfl rfl trivial ?_
          obtain ⟨o106, H⟩ := H
          refine wp_call (b := false) (y' := 197) (as := [.ref 381, .int (mx_i h97 382 3), .int 1, .int x9]) (rest := []) (P := ((mxT 381).1 = mxRc 197 ∧ mxG h102)) rfl (by with_unfolding_all rfl) ⟨(congrArg Prod.fst sT_381), G104⟩ (Nat.le_of_ble_eq_true rfl) (sp_197 G104 o106 ?_)
          show mx_wp (d + 6) 217 61 [some (.ref 381), some (.int i1), some (.int x3), some (.int x9), some (.int x15), some (.int x96), some (.int (mx_i h97 382 3))] [] (W_197 h102 (mx_i h97 382 3) (1 : Int32) x9) Q
          obtain ⟨h107, e108⟩ : ∃ z9, z9 = W_197 h102 (mx_i h97 382 3) (1 : Int32) x9 := ⟨_, rfl⟩
          rw [← e108]
          have H := H h107 e108
          have K110 : mxK h102 h107 := e108 ▸ KW_197
          have G109 : mxG h107 := mxK_G K110 G104
          refine wp_steps (i' := 65) (ls' := [some (.ref 381), some (.int i1), some (.int x3), some (.int x9), some (.int x15), some (.int x96), some (.int (mx_i h97 382 3))]) (st' := [.int x15, .int 2, .int (mx_i h97 382 3), .ref 381]) (h' := h107) (P := True) 4 rfl rfl trivial ?_
          obtain ⟨o111, H⟩ := H
          refine wp_call (b := false) (y' := 197) (as := [.ref 381, .int (mx_i h97 382 3), .int 2, .int x15]) (rest := []) (P := ((mxT 381).1 = mxRc 197 ∧ mxG h107)) rfl (by with_unfolding_all rfl) ⟨(congrArg Prod.fst sT_381), G109⟩ (Nat.le_of_ble_eq_true rfl) (sp_197 G109 o111 ?_)
          show mx_wp (d + 6) 217 66 [some (.ref 381), some (.int i1), some (.int x3), some (.int x9), some (.int x15), some (.int x96), some (.int (mx_i h97 382 3))] [] (W_197 h107 (mx_i h97 382 3) (2 : Int32) x15) Q
          obtain ⟨h112, e113⟩ : ∃ z9, z9 = W_197 h107 (mx_i h97 382 3) (2 : Int32) x15 := ⟨_, rfl⟩
          rw [← e113]
          have H := H h112 e113
          have K115 : mxK h107 h112 := e113 ▸ KW_197
          have G114 : mxG h112 := mxK_G K115 G109
          refine wp_steps (i' := 70) (ls' := [some (.ref 381), some (.int i1), some (.int x3), some (.int x9), some (.int x15), some (.int x96), some (.int (mx_i h97 382 3))]) (st' := [.int x96, .int 3, .int (mx_i h97 382 3), .ref 381]) (h' := h112) (P := True) 4 rfl rfl trivial ?_
          obtain ⟨o116, H⟩ := H
          refine wp_call (b := false) (y' := 197) (as := [.ref 381, .int (mx_i h97 382 3), .int 3, .int x96]) (rest := []) (P := ((mxT 381).1 = mxRc 197 ∧ mxG h112)) rfl (by with_unfolding_all rfl) ⟨(congrArg Prod.fst sT_381), G114⟩ (Nat.le_of_ble_eq_true rfl) (sp_197 G114 o116 ?_)
          show mx_wp (d + 6) 217 71 [some (.ref 381), some (.int i1), some (.int x3), some (.int x9), some (.int x15), some (.int x96), some (.int (mx_i h97 382 3))] [] (W_197 h112 (mx_i h97 382 3) (3 : Int32) x96) Q
          obtain ⟨h117, e118⟩ : ∃ z9, z9 = W_197 h112 (mx_i h97 382 3) (3 : Int32) x96 := ⟨_, rfl⟩
          rw [← e118]
          have H := H h117 e118
          have K120 : mxK h112 h117 := e118 ▸ KW_197
          have G119 : mxG h117 := mxK_G K120 G114
          refine wp_steps (i' := 75) (ls' := [some (.ref 381), some (.int i1), some (.int x3), some (.int x9), some (.int x15), some (.int x96), some (.int (mx_i h97 382 3))]) (st' := [.int 0, .int 4, .int (mx_i h97 382 3), .ref 381]) (h' := h117) (P := True) 4 rfl rfl trivial ?_
          obtain ⟨o121, H⟩ := H
          refine wp_call (b := false) (y' := 197) (as := [.ref 381, .int (mx_i h97 382 3), .int 4, .int 0]) (rest := []) (P := ((mxT 381).1 = mxRc 197 ∧ mxG h117)) rfl (by with_unfolding_all rfl) ⟨(congrArg Prod.fst sT_381), G119⟩ (Nat.le_of_ble_eq_true rfl) (sp_197 G119 o121 ?_)
          show mx_wp (d + 6) 217 76 [some (.ref 381), some (.int i1), some (.int x3), some (.int x9), some (.int x15), some (.int x96), some (.int (mx_i h97 382 3))] [] (W_197 h117 (mx_i h97 382 3) (4 : Int32) (0 : Int32)) Q
          obtain ⟨h122, e123⟩ : ∃ z9, z9 = W_197 h117 (mx_i h97 382 3) (4 : Int32) (0 : Int32) := ⟨_, rfl⟩
          rw [← e123]
          have H := H h122 e123
          have K125 : mxK h117 h122 := e123 ▸ KW_197
          have G124 : mxG h122 := mxK_G K125 G119
          refine wp_steps (i' := 80) (ls' := [some (.ref 381), some (.int i1), some (.int x3), some (.int x9), some (.int x15), some (.int x96), some (.int (mx_i h97 382 3))]) (st' := [.int 0, .int 5, .int (mx_i h97 382 3), .ref 381]) (h' := h122) (P := True) 4 rfl rfl trivial ?_
          obtain ⟨o126, H⟩ := H
          refine wp_call (b := false) (y' := 197) (as := [.ref 381, .int (mx_i h97 382 3), .int 5, .int 0]) (rest := []) (P := ((mxT 381).1 = mxRc 197 ∧ mxG h122)) rfl (by with_unfolding_all rfl) ⟨(congrArg Prod.fst sT_381), G124⟩ (Nat.le_of_ble_eq_true rfl) (sp_197 G124 o126 ?_)
          show mx_wp (d + 6) 217 81 [some (.ref 381), some (.int i1), some (.int x3), some (.int x9), some (.int x15), some (.int x96), some (.int (mx_i h97 382 3))] [] (W_197 h122 (mx_i h97 382 3) (5 : Int32) (0 : Int32)) Q
          obtain ⟨h127, e128⟩ : ∃ z9, z9 = W_197 h122 (mx_i h97 382 3) (5 : Int32) (0 : Int32) := ⟨_, rfl⟩
          rw [← e128]
          have H := H h127 e128
          have K130 : mxK h122 h127 := e128 ▸ KW_197
          have G129 : mxG h127 := mxK_G K130 G124
          refine wp_steps (i' := 89) (ls' := [some (.ref 381), some (.int i1), some (.int x3), some (.int x9), some (.int x15), some (.int x96), some (.int (mx_i h97 382 3))]) (st' := []) (h' := mx_wi h127 382 3 ((mx_i h127 382 3) + 1)) (P := ((mxT 381).1 = 11 ∧ mxG h127) ∧ (((mxT 382).1 = 50 ∧ mxG h127) ∧ vp_in 3 (mxT 382).2) ∧ (((mxT 382).1 = 50 ∧ mxG h127) ∧ vp_in 3 (mxT 382).2) ∧ True) 8 rfl rfl ⟨⟨(congrArg Prod.fst sT_381), G129⟩, (cA sT_382 G129 (vpl rfl)), (cA sT_382 G129 (vpl rfl)), trivial⟩ ?_
          obtain ⟨h131, e132⟩ : ∃ z9, z9 = mx_wi h127 382 3 ((mx_i h127 382 3) + 1) := ⟨_, rfl⟩
          rw [← e132]
          have H := H h131 e132
          have G133 : mxG h131 := e132 ▸ mxG_wi G129
          exact wp_end (o := .inl none) (h' := h131) (P := True) rfl rfl trivial H
        · skip
          have H := H.2 c100
          exact wp_end (o := .inl none) (h' := h97) (P := True) rfl rfl trivial H
  · have c1 := Decidable.of_not_not c1
    have H := H.1 c1
    refine wp_steps (i' := 8) (ls' := [some (.ref 381), some (.int i1), none, none, none, none, none]) (st' := [.int i1, .ref 381]) (h' := h) (P := True) 2 rfl rfl trivial ?_
    refine wp_call (b := false) (y' := 213) (as := [.ref 381, .int i1]) (rest := []) (P := ((mxT 381).1 = mxRc 213 ∧ mxG h)) rfl (by with_unfolding_all rfl) ⟨(congrArg Prod.fst sT_381), G⟩ (Nat.le_of_ble_eq_true rfl) (sp_213 G ?_)
    show mx_wp (d + 6) 217 9 [some (.ref 381), some (.int i1), none, none, none, none, none] [] (W_213 h i1) Q
    obtain ⟨h134, e135⟩ : ∃ z9, z9 = W_213 h i1 := ⟨_, rfl⟩
    rw [← e135]
    have H := H h134 e135
    have K137 : mxK h h134 := e135 ▸ KW_213
    have G136 : mxG h134 := mxK_G K137 G
    refine wp_steps (i' := 12) (ls' := [some (.ref 381), some (.int i1), none, none, none, none, none]) (st' := [.int 999, .int 0, .ref 381]) (h' := h134) (P := True) 3 rfl rfl trivial ?_
    obtain ⟨o138, H⟩ := H
    refine wp_call (b := false) (y' := 215) (as := [.ref 381, .int 0, .int 999]) (rest := []) (P := ((mxT 381).1 = mxRc 215 ∧ mxG h134)) rfl (by with_unfolding_all rfl) ⟨(congrArg Prod.fst sT_381), G136⟩ (Nat.le_of_ble_eq_true rfl) (sp_215 G136 o138 ?_)
    intro x139 h140 p141
    show mx_wp (d + 6) 217 13 [some (.ref 381), some (.int i1), none, none, none, none, none] [.int x139] h140 Q
    have H := H x139 h140 p141
    have G142 : mxG h140 := mxK_G p141.1 G136
    refine wp_steps (i' := 18) (ls' := [some (.ref 381), some (.int i1), some (.int x139), none, none, none, none]) (st' := [.int 60, .int 1, .ref 72, .ref 381]) (h' := h140) (P := True) 5 rfl rfl trivial ?_
    obtain ⟨o143, o144, H⟩ := H
    refine wp_call (b := false) (y' := 216) (as := [.ref 381, .ref 72, .int 1, .int 60]) (rest := []) (P := ((mxT 381).1 = mxRc 216 ∧ mxG h140)) rfl (by with_unfolding_all rfl) ⟨(congrArg Prod.fst sT_381), G142⟩ (Nat.le_of_ble_eq_true rfl) (sp_216 G142 o143 o144 ?_)
    intro x145 h146 p147
    show mx_wp (d + 6) 217 19 [some (.ref 381), some (.int i1), some (.int x139), none, none, none, none] [.int x145] h146 Q
    have H := H x145 h146 p147
    have G148 : mxG h146 := mxK_G p147.1 G142
    refine wp_steps (i' := 24) (ls' := [some (.ref 381), some (.int i1), some (.int x139), some (.int x145), none, none, none]) (st' := [.int 11, .int 0, .ref 34, .ref 381]) (h' := h146) (P := True) 5 rfl rfl trivial ?_
    obtain ⟨o149, o150, H⟩ := H
    refine wp_call (b := false) (y' := 216) (as := [.ref 381, .ref 34, .int 0, .int 11]) (rest := []) (P := ((mxT 381).1 = mxRc 216 ∧ mxG h146)) rfl (by with_unfolding_all rfl) ⟨(congrArg Prod.fst sT_381), G148⟩ (Nat.le_of_ble_eq_true rfl) (sp_216 G148 o149 o150 ?_)
    intro x151 h152 p153
    show mx_wp (d + 6) 217 25 [some (.ref 381), some (.int i1), some (.int x139), some (.int x145), none, none, none] [.int x151] h152 Q
    have H := H x151 h152 p153
    have G154 : mxG h152 := mxK_G p153.1 G148
    refine wp_steps (i' := 29) (ls' := [some (.ref 381), some (.int i1), some (.int x139), some (.int x145), some (.int x151), none, none]) (st' := [.int (-1), .int (mx_i h152 381 12)]) (h' := h152) (P := ((mxT 381).1 = 11 ∧ mxG h152) ∧ True) 4 rfl rfl ⟨⟨(congrArg Prod.fst sT_381), G154⟩, trivial⟩ ?_
    refine wp_br (P := True) (c := ¬ (mx_i h152 381 12) = (-1)) (t := 39) (st' := []) rfl rfl trivial (fun c155 => ?_) (fun c155 => ?_)
    · skip
      have H := H.2 c155
      refine wp_steps (i' := 44) (ls' := [some (.ref 381), some (.int i1), some (.int x139), some (.int x145), some (.int x151), some (.int x151), none]) (st' := [.int (-1), .int (mx_i h152 381 12)]) (h' := h152) (P := ((mxT 381).1 = 11 ∧ mxG h152) ∧ True) 5 rfl rfl ⟨⟨(congrArg Prod.fst sT_381), G154⟩, trivial⟩ ?_
      refine wp_br (P := True) (c := (mx_i h152 381 12) = (-1)) (t := 46) (st' := []) rfl rfl trivial (fun c156 => ?_) (fun c156 => ?_)
      · skip
        have H := H.1 c156
        refine wp_steps (i' := 55) (ls' := [some (.ref 381), some (.int i1), some (.int x139), some (.int x145), some (.int x151), some (.int x151), some (.int (mx_i h152 382 3))]) (st' := [.int x139, .int 0, .int (mx_i h152 382 3), .ref 381]) (h' := h152) (P := ((mxT 381).1 = 11 ∧ mxG h152) ∧ (((mxT 382).1 = 50 ∧ mxG h152) ∧ vp_in 3 (mxT 382).2) ∧ True) 9 rfl rfl ⟨⟨(congrArg Prod.fst sT_381), G154⟩, (cA sT_382 G154 (vpl rfl)), trivial⟩ ?_
        obtain ⟨o157, H⟩ := H
        refine wp_call (b := false) (y' := 197) (as := [.ref 381, .int (mx_i h152 382 3), .int 0, .int x139]) (rest := []) (P := ((mxT 381).1 = mxRc 197 ∧ mxG h152)) rfl (by with_unfolding_all rfl) ⟨(congrArg Prod.fst sT_381), G154⟩ (Nat.le_of_ble_eq_true rfl) (sp_197 G154 o157 ?_)
        show mx_wp (d + 6) 217 56 [some (.ref 381), some (.int i1), some (.int x139), some (.int x145), some (.int x151), some (.int x151), some (.int (mx_i h152 382 3))] [] (W_197 h152 (mx_i h152 382 3) (0 : Int32) x139) Q
        obtain ⟨h158, e159⟩ : ∃ z9, z9 = W_197 h152 (mx_i h152 382 3) (0 : Int32) x139 := ⟨_, rfl⟩
        rw [← e159]
        have H := H h158 e159
        have K161 : mxK h152 h158 := e159 ▸ KW_197
        have G160 : mxG h158 := mxK_G K161 G154
        refine wp_steps (i' := 60) (ls' := [some (.ref 381), some (.int i1), some (.int x139), some (.int x145), some (.int x151), some (.int x151), some (.int (mx_i h152 382 3))]) (st' := [.int x145, .int 1, .int (mx_i h152 382 3), .ref 381]) (h' := h158) (P := True) 4 rfl rfl trivial ?_
        obtain ⟨o162, H⟩ := H
        refine wp_call (b := false) (y' := 197) (as := [.ref 381, .int (mx_i h152 382 3), .int 1, .int x145]) (rest := []) (P := ((mxT 381).1 = mxRc 197 ∧ mxG h158)) rfl (by with_unfolding_all rfl) ⟨(congrArg Prod.fst sT_381), G160⟩ (Nat.le_of_ble_eq_true rfl) (sp_197 G160 o162 ?_)
        show mx_wp (d + 6) 217 61 [some (.ref 381), some (.int i1), some (.int x139), some (.int x145), some (.int x151), some (.int x151), some (.int (mx_i h152 382 3))] [] (W_197 h158 (mx_i h152 382 3) (1 : Int32) x145) Q
        obtain ⟨h163, e164⟩ : ∃ z9, z9 = W_197 h158 (mx_i h152 382 3) (1 : Int32) x145 := ⟨_, rfl⟩
        rw [← e164]
        have H := H h163 e164
        have K166 : mxK h158 h163 := e164 ▸ KW_197
        have G165 : mxG h163 := mxK_G K166 G160
        refine wp_steps (i' := 65) (ls' := [some (.ref 381), some (.int i1), some (.int x139), some (.int x145), some (.int x151), some (.int x151), some (.int (mx_i h152 382 3))]) (st' := [.int x151, .int 2, .int (mx_i h152 382 3), .ref 381]) (h' := h163) (P := True) 4 rfl rfl trivial ?_
        obtain ⟨o167, H⟩ := H
        refine wp_call (b := false) (y' := 197) (as := [.ref 381, .int (mx_i h152 382 3), .int 2, .int x151]) (rest := []) (P := ((mxT 381).1 = mxRc 197 ∧ mxG h163)) rfl (by with_unfolding_all rfl) ⟨(congrArg Prod.fst sT_381), G165⟩ (Nat.le_of_ble_eq_true rfl) (sp_197 G165 o167 ?_)
        show mx_wp (d + 6) 217 66 [some (.ref 381), some (.int i1), some (.int x139), some (.int x145), some (.int x151), some (.int x151), some (.int (mx_i h152 382 3))] [] (W_197 h163 (mx_i h152 382 3) (2 : Int32) x151) Q
        obtain ⟨h168, e169⟩ : ∃ z9, z9 = W_197 h163 (mx_i h152 382 3) (2 : Int32) x151 := ⟨_, rfl⟩
        rw [← e169]
        have H := H h168 e169
        have K171 : mxK h163 h168 := e169 ▸ KW_197
        have G170 : mxG h168 := mxK_G K171 G165
        refine wp_steps (i' := 70) (ls' := [some (.ref 381), some (.int i1), some (.int x139), some (.int x145), some (.int x151), some (.int x151), some (.int (mx_i h152 382 3))]) (st' := [.int x151, .int 3, .int (mx_i h152 382 3), .ref 381]) (h' := h168) (P := True) 4 rfl rfl trivial ?_
        obtain ⟨o172, H⟩ := H
        refine wp_call (b := false) (y' := 197) (as := [.ref 381, .int (mx_i h152 382 3), .int 3, .int x151]) (rest := []) (P := ((mxT 381).1 = mxRc 197 ∧ mxG h168)) rfl (by with_unfolding_all rfl) ⟨(congrArg Prod.fst sT_381), G170⟩ (Nat.le_of_ble_eq_true rfl) (sp_197 G170 o172 ?_)
        show mx_wp (d + 6) 217 71 [some (.ref 381), some (.int i1), some (.int x139), some (.int x145), some (.int x151), some (.int x151), some (.int (mx_i h152 382 3))] [] (W_197 h168 (mx_i h152 382 3) (3 : Int32) x151) Q
        obtain ⟨h173, e174⟩ : ∃ z9, z9 = W_197 h168 (mx_i h152 382 3) (3 : Int32) x151 := ⟨_, rfl⟩
        rw [← e174]
        have H := H h173 e174
        have K176 : mxK h168 h173 := e174 ▸ KW_197
        have G175 : mxG h173 := mxK_G K176 G170
        refine wp_steps (i' := 75) (ls' := [some (.ref 381), some (.int i1), some (.int x139), some (.int x145), some (.int x151), some (.int x151), some (.int (mx_i h152 382 3))]) (st' := [.int 0, .int 4, .int (mx_i h152 382 3), .ref 381]) (h' := h173) (P := True) 4 rfl rfl trivial ?_
        obtain ⟨o177, H⟩ := H
        refine wp_call (b := false) (y' := 197) (as := [.ref 381, .int (mx_i h152 382 3), .int 4, .int 0]) (rest := []) (P := ((mxT 381).1 = mxRc 197 ∧ mxG h173)) rfl (by with_unfolding_all rfl) ⟨(congrArg Prod.fst sT_381), G175⟩ (Nat.le_of_ble_eq_true rfl) (sp_197 G175 o177 ?_)
        show mx_wp (d + 6) 217 76 [some (.ref 381), some (.int i1), some (.int x139), some (.int x145), some (.int x151), some (.int x151), some (.int (mx_i h152 382 3))] [] (W_197 h173 (mx_i h152 382 3) (4 : Int32) (0 : Int32)) Q
        obtain ⟨h178, e179⟩ : ∃ z9, z9 = W_197 h173 (mx_i h152 382 3) (4 : Int32) (0 : Int32) := ⟨_, rfl⟩
        rw [← e179]
        have H := H h178 e179
        have K181 : mxK h173 h178 := e179 ▸ KW_197
        have G180 : mxG h178 := mxK_G K181 G175
        refine wp_steps (i' := 80) (ls' := [some (.ref 381), some (.int i1), some (.int x139), some (.int x145), some (.int x151), some (.int x151), some (.int (mx_i h152 382 3))]) (st' := [.int 0, .int 5, .int (mx_i h152 382 3), .ref 381]) (h' := h178) (P := True) 4 rfl rfl trivial ?_
        obtain ⟨o182, H⟩ := H
        refine wp_call (b := false) (y' := 197) (as := [.ref 381, .int (mx_i h152 382 3), .int 5, .int 0]) (rest := []) (P := ((mxT 381).1 = mxRc 197 ∧ mxG h178)) rfl (by with_unfolding_all rfl) ⟨(congrArg Prod.fst sT_381), G180⟩ (Nat.le_of_ble_eq_true rfl) (sp_197 G180 o182 ?_)
        show mx_wp (d + 6) 217 81 [some (.ref 381), some (.int i1), some (.int x139), some (.int x145), some (.int x151), some (.int x151), some (.int (mx_i h152 382 3))] [] (W_197 h178 (mx_i h152 382 3) (5 : Int32) (0 : Int32)) Q
        obtain ⟨h183, e184⟩ : ∃ z9, z9 = W_197 h178 (mx_i h152 382 3) (5 : Int32) (0 : Int32) := ⟨_, rfl⟩
        rw [← e184]
        have H := H h183 e184
        have K186 : mxK h178 h183 := e184 ▸ KW_197
        have G185 : mxG h183 := mxK_G K186 G180
        refine wp_steps (i' := 89) (ls' := [some (.ref 381), some (.int i1), some (.int x139), some (.int x145), some (.int x151), some (.int x151), some (.int (mx_i h152 382 3))]) (st' := []) (h' := mx_wi h183 382 3 ((mx_i h183 382 3) + 1)) (P := ((mxT 381).1 = 11 ∧ mxG h183) ∧ (((mxT 382).1 = 50 ∧ mxG h183) ∧ vp_in 3 (mxT 382).2) ∧ (((mxT 382).1 = 50 ∧ mxG h183) ∧ vp_in 3 (mxT 382).2) ∧ True) 8 rfl rfl ⟨⟨(congrArg Prod.fst sT_381), G185⟩, (cA sT_382 G185 (vpl rfl)), (cA sT_382 G185 (vpl rfl)), trivial⟩ ?_
        obtain ⟨h187, e188⟩ : ∃ z9, z9 = mx_wi h183 382 3 ((mx_i h183 382 3) + 1) := ⟨_, rfl⟩
        rw [← e188]
        have H := H h187 e188
        have G189 : mxG h187 := e188 ▸ mxG_wi G185
        exact wp_end (o := .inl none) (h' := h187) (P := True) rfl rfl trivial H
      · skip
        have H := H.2 c156
        exact wp_end (o := .inl none) (h' := h152) (P := True) rfl rfl trivial H
    · have c155 := Decidable.of_not_not c155
      have H := H.1 c155
      refine wp_steps (i' := 32) (ls' := [some (.ref 381), some (.int i1), some (.int x139), some (.int x145), some (.int x151), none, none]) (st' := [.ref 32, .ref 381]) (h' := h152) (P := True) 2 rfl rfl trivial ?_
      obtain ⟨o190, o191, H⟩ := H
      refine wp_call (b := false) (y' := 212) (as := [.ref 381, .ref 32]) (rest := []) (P := ((mxT 381).1 = mxRc 212 ∧ mxG h152)) rfl (by with_unfolding_all rfl) ⟨(congrArg Prod.fst sT_381), G154⟩ (Nat.le_of_ble_eq_true rfl) (sp_212 G154 o190 o191 ?_)
      intro x192 h193 p194
      show mx_wp (d + 6) 217 33 [some (.ref 381), some (.int i1), some (.int x139), some (.int x145), some (.int x151), none, none] [.int x192] h193 Q
      have H := H x192 h193 p194
      have G195 : mxG h193 := mxK_G p194.1 G154
      refine wp_br (P := True) (c := x192 = 0) (t := 39) (st' := []) rfl rfl trivial (fun c196 => ?_) (fun c196 => ?_)
      · skip
        have H := H.1 c196
        refine wp_steps (i' := 44) (ls' := [some (.ref 381), some (.int i1), some (.int x139), some (.int x145), some (.int x151), some (.int x151), none]) (st' := [.int (-1), .int (mx_i h193 381 12)]) (h' := h193) (P := ((mxT 381).1 = 11 ∧ mxG h193) ∧ True) 5 rfl rfl ⟨⟨(congrArg Prod.fst sT_381), G195⟩, trivial⟩ ?_
        refine wp_br (P := True) (c := (mx_i h193 381 12) = (-1)) (t := 46) (st' := []) rfl rfl trivial (fun c197 => ?_) (fun c197 => ?_)
        · skip
          have H := H.1 c197
          refine wp_steps (i' := 55) (ls' := [some (.ref 381), some (.int i1), some (.int x139), some (.int x145), some (.int x151), some (.int x151), some (.int (mx_i h193 382 3))]) (st' := [.int x139, .int 0, .int (mx_i h193 382 3), .ref 381]) (h' := h193) (P := ((mxT 381).1 = 11 ∧ mxG h193) ∧ (((mxT 382).1 = 50 ∧ mxG h193) ∧ vp_in 3 (mxT 382).2) ∧ True) 9 rfl rfl ⟨⟨(congrArg Prod.fst sT_381), G195⟩, (cA sT_382 G195 (vpl rfl)), trivial⟩ ?_
          obtain ⟨o198, H⟩ := H
          refine wp_call (b := false) (y' := 197) (as := [.ref 381, .int (mx_i h193 382 3), .int 0, .int x139]) (rest := []) (P := ((mxT 381).1 = mxRc 197 ∧ mxG h193)) rfl (by with_unfolding_all rfl) ⟨(congrArg Prod.fst sT_381), G195⟩ (Nat.le_of_ble_eq_true rfl) (sp_197 G195 o198 ?_)
          show mx_wp (d + 6) 217 56 [some (.ref 381), some (.int i1), some (.int x139), some (.int x145), some (.int x151), some (.int x151), some (.int (mx_i h193 382 3))] [] (W_197 h193 (mx_i h193 382 3) (0 : Int32) x139) Q
          obtain ⟨h199, e200⟩ : ∃ z9, z9 = W_197 h193 (mx_i h193 382 3) (0 : Int32) x139 := ⟨_, rfl⟩
          rw [← e200]
          have H := H h199 e200
          have K202 : mxK h193 h199 := e200 ▸ KW_197
          have G201 : mxG h199 := mxK_G K202 G195
          refine wp_steps (i' := 60) (ls' := [some (.ref 381), some (.int i1), some (.int x139), some (.int x145), some (.int x151), some (.int x151), some (.int (mx_i h193 382 3))]) (st' := [.int x145, .int 1, .int (mx_i h193 382 3), .ref 381]) (h' := h199) (P := True) 4 rfl rfl trivial ?_
          obtain ⟨o203, H⟩ := H
          refine wp_call (b := false) (y' := 197) (as := [.ref 381, .int (mx_i h193 382 3), .int 1, .int x145]) (rest := []) (P := ((mxT 381).1 = mxRc 197 ∧ mxG h199)) rfl (by with_unfolding_all rfl) ⟨(congrArg Prod.fst sT_381), G201⟩ (Nat.le_of_ble_eq_true rfl) (sp_197 G201 o203 ?_)
          show mx_wp (d + 6) 217 61 [some (.ref 381), some (.int i1), some (.int x139), some (.int x145), some (.int x151), some (.int x151), some (.int (mx_i h193 382 3))] [] (W_197 h199 (mx_i h193 382 3) (1 : Int32) x145) Q
          obtain ⟨h204, e205⟩ : ∃ z9, z9 = W_197 h199 (mx_i h193 382 3) (1 : Int32) x145 := ⟨_, rfl⟩
          rw [← e205]
          have H := H h204 e205
          have K207 : mxK h199 h204 := e205 ▸ KW_197
          have G206 : mxG h204 := mxK_G K207 G201
          refine wp_steps (i' := 65) (ls' := [some (.ref 381), some (.int i1), some (.int x139), some (.int x145), some (.int x151), some (.int x151), some (.int (mx_i h193 382 3))]) (st' := [.int x151, .int 2, .int (mx_i h193 382 3), .ref 381]) (h' := h204) (P := True) 4 rfl rfl trivial ?_
          obtain ⟨o208, H⟩ := H
          refine wp_call (b := false) (y' := 197) (as := [.ref 381, .int (mx_i h193 382 3), .int 2, .int x151]) (rest := []) (P := ((mxT 381).1 = mxRc 197 ∧ mxG h204)) rfl (by with_unfolding_all rfl) ⟨(congrArg Prod.fst sT_381), G206⟩ (Nat.le_of_ble_eq_true rfl) (sp_197 G206 o208 ?_)
          show mx_wp (d + 6) 217 66 [some (.ref 381), some (.int i1), some (.int x139), some (.int x145), some (.int x151), some (.int x151), some (.int (mx_i h193 382 3))] [] (W_197 h204 (mx_i h193 382 3) (2 : Int32) x151) Q
          obtain ⟨h209, e210⟩ : ∃ z9, z9 = W_197 h204 (mx_i h193 382 3) (2 : Int32) x151 := ⟨_, rfl⟩
          rw [← e210]
          have H := H h209 e210
          have K212 : mxK h204 h209 := e210 ▸ KW_197
          have G211 : mxG h209 := mxK_G K212 G206
          refine wp_steps (i' := 70) (ls' := [some (.ref 381), some (.int i1), some (.int x139), some (.int x145), some (.int x151), some (.int x151), some (.int (mx_i h193 382 3))]) (st' := [.int x151, .int 3, .int (mx_i h193 382 3), .ref 381]) (h' := h209) (P := True) 4 rfl rfl trivial ?_
          obtain ⟨o213, H⟩ := H
          refine wp_call (b := false) (y' := 197) (as := [.ref 381, .int (mx_i h193 382 3), .int 3, .int x151]) (rest := []) (P := ((mxT 381).1 = mxRc 197 ∧ mxG h209)) rfl (by with_unfolding_all rfl) ⟨(congrArg Prod.fst sT_381), G211⟩ (Nat.le_of_ble_eq_true rfl) (sp_197 G211 o213 ?_)
          show mx_wp (d + 6) 217 71 [some (.ref 381), some (.int i1), some (.int x139), some (.int x145), some (.int x151), some (.int x151), some (.int (mx_i h193 382 3))] [] (W_197 h209 (mx_i h193 382 3) (3 : Int32) x151) Q
          obtain ⟨h214, e215⟩ : ∃ z9, z9 = W_197 h209 (mx_i h193 382 3) (3 : Int32) x151 := ⟨_, rfl⟩
          rw [← e215]
          have H := H h214 e215
          have K217 : mxK h209 h214 := e215 ▸ KW_197
          have G216 : mxG h214 := mxK_G K217 G211
          refine wp_steps (i' := 75) (ls' := [some (.ref 381), some (.int i1), some (.int x139), some (.int x145), some (.int x151), some (.int x151), some (.int (mx_i h193 382 3))]) (st' := [.int 0, .int 4, .int (mx_i h193 382 3), .ref 381]) (h' := h214) (P := True) 4 rfl rfl trivial ?_
          obtain ⟨o218, H⟩ := H
          refine wp_call (b := false) (y' := 197) (as := [.ref 381, .int (mx_i h193 382 3), .int 4, .int 0]) (rest := []) (P := ((mxT 381).1 = mxRc 197 ∧ mxG h214)) rfl (by with_unfolding_all rfl) ⟨(congrArg Prod.fst sT_381), G216⟩ (Nat.le_of_ble_eq_true rfl) (sp_197 G216 o218 ?_)
          show mx_wp (d + 6) 217 76 [some (.ref 381), some (.int i1), some (.int x139), some (.int x145), some (.int x151), some (.int x151), some (.int (mx_i h193 382 3))] [] (W_197 h214 (mx_i h193 382 3) (4 : Int32) (0 : Int32)) Q
          obtain ⟨h219, e220⟩ : ∃ z9, z9 = W_197 h214 (mx_i h193 382 3) (4 : Int32) (0 : Int32) := ⟨_, rfl⟩
          rw [← e220]
          have H := H h219 e220
          have K222 : mxK h214 h219 := e220 ▸ KW_197
          have G221 : mxG h219 := mxK_G K222 G216
          refine wp_steps (i' := 80) (ls' := [some (.ref 381), some (.int i1), some (.int x139), some (.int x145), some (.int x151), some (.int x151), some (.int (mx_i h193 382 3))]) (st' := [.int 0, .int 5, .int (mx_i h193 382 3), .ref 381]) (h' := h219) (P := True) 4 rfl rfl trivial ?_
          obtain ⟨o223, H⟩ := H
          refine wp_call (b := false) (y' := 197) (as := [.ref 381, .int (mx_i h193 382 3), .int 5, .int 0]) (rest := []) (P := ((mxT 381).1 = mxRc 197 ∧ mxG h219)) rfl (by with_unfolding_all rfl) ⟨(congrArg Prod.fst sT_381), G221⟩ (Nat.le_of_ble_eq_true rfl) (sp_197 G221 o223 ?_)
          show mx_wp (d + 6) 217 81 [some (.ref 381), some (.int i1), some (.int x139), some (.int x145), some (.int x151), some (.int x151), some (.int (mx_i h193 382 3))] [] (W_197 h219 (mx_i h193 382 3) (5 : Int32) (0 : Int32)) Q
          obtain ⟨h224, e225⟩ : ∃ z9, z9 = W_197 h219 (mx_i h193 382 3) (5 : Int32) (0 : Int32) := ⟨_, rfl⟩
          rw [← e225]
          have H := H h224 e225
          have K227 : mxK h219 h224 := e225 ▸ KW_197
          have G226 : mxG h224 := mxK_G K227 G221
          refine wp_steps (i' := 89) (ls' := [some (.ref 381), some (.int i1), some (.int x139), some (.int x145), some (.int x151), some (.int x151), some (.int (mx_i h193 382 3))]) (st' := []) (h' := mx_wi h224 382 3 ((mx_i h224 382 3) + 1)) (P := ((mxT 381).1 = 11 ∧ mxG h224) ∧ (((mxT 382).1 = 50 ∧ mxG h224) ∧ vp_in 3 (mxT 382).2) ∧ (((mxT 382).1 = 50 ∧ mxG h224) ∧ vp_in 3 (mxT 382).2) ∧ True) 8 rfl rfl ⟨⟨(congrArg Prod.fst sT_381), G226⟩, (cA sT_382 G226 (vpl rfl)), (cA sT_382 G226 (vpl rfl)), trivial⟩ ?_
          obtain ⟨h228, e229⟩ : ∃ z9, z9 = mx_wi h224 382 3 ((mx_i h224 382 3) + 1) := ⟨_, rfl⟩
          rw [← e229]
          have H := H h228 e229
          have G230 : mxG h228 := e229 ▸ mxG_wi G226
          exact wp_end (o := .inl none) (h' := h228) (P := True) rfl rfl trivial H
        · skip
          have H := H.2 c197
          exact wp_end (o := .inl none) (h' := h193) (P := True) rfl rfl trivial H
      · skip
        have H := H.2 c196
        refine wp_steps (i' := 37) (ls' := [some (.ref 381), some (.int i1), some (.int x139), some (.int x145), some (.int x151), none, none]) (st' := [.int 11, .int 0, .ref 381]) (h' := h193) (P := True) 3 rfl rfl trivial ?_
        obtain ⟨o231, H⟩ := H
        refine wp_call (b := false) (y' := 215) (as := [.ref 381, .int 0, .int 11]) (rest := []) (P := ((mxT 381).1 = mxRc 215 ∧ mxG h193)) rfl (by with_unfolding_all rfl) ⟨(congrArg Prod.fst sT_381), G195⟩ (Nat.le_of_ble_eq_true rfl) (sp_215 G195 o231 ?_)
        intro x232 h233 p234
        show mx_wp (d + 6) 217 38 [some (.ref 381), some (.int i1), some (.int x139), some (.int x145), some (.int x151), none, none] [.int x232] h233 Q
        have H := H x232 h233 p234
        have G235 : mxG h233 := mxK_G p234.1 G195
        refine wp_J (j := 40) (st' := [.int x232]) rfl rfl ?_
        refine wp_steps (i' := 44) (ls' := [some (.ref 381), some (.int i1), some (.int x139), some (.int x145), some (.int x151), some (.int x232), none]) (st' := [.int (-1), .int (mx_i h233 381 12)]) (h' := h233) (P := ((mxT 381).1 = 11 ∧ mxG h233) ∧ True) 4 rfl rfl ⟨⟨(congrArg Prod.fst sT_381), G235⟩, trivial⟩ ?_
        refine wp_br (P := True) (c := (mx_i h233 381 12) = (-1)) (t := 46) (st' := []) rfl rfl trivial (fun c236 => ?_) (fun c236 => ?_)
        · skip
          have H := H.1 c236
          refine wp_steps (i' := 55) (ls' := [some (.ref 381), some (.int i1), some (.int x139), some (.int x145), some (.int x151), some (.int x232), some (.int (mx_i h233 382 3))]) (st' := [.int x139, .int 0, .int (mx_i h233 382 3), .ref 381]) (h' := h233) (P := ((mxT 381).1 = 11 ∧ mxG h233) ∧ (((mxT 382).1 = 50 ∧ mxG h233) ∧ vp_in 3 (mxT 382).2) ∧ True) 9 rfl rfl ⟨⟨(congrArg Prod.fst sT_381), G235⟩, (cA sT_382 G235 (vpl rfl)), trivial⟩ ?_
          obtain ⟨o237, H⟩ := H
          refine wp_call (b := false) (y' := 197) (as := [.ref 381, .int (mx_i h233 382 3), .int 0, .int x139]) (rest := []) (P := ((mxT 381).1 = mxRc 197 ∧ mxG h233)) rfl (by with_unfolding_all rfl) ⟨(congrArg Prod.fst sT_381), G235⟩ (Nat.le_of_ble_eq_true rfl) (sp_197 G235 o237 ?_)
          show mx_wp (d + 6) 217 56 [some (.ref 381), some (.int i1), some (.int x139), some (.int x145), some (.int x151), some (.int x232), some (.int (mx_i h233 382 3))] [] (W_197 h233 (mx_i h233 382 3) (0 : Int32) x139) Q
          obtain ⟨h238, e239⟩ : ∃ z9, z9 = W_197 h233 (mx_i h233 382 3) (0 : Int32) x139 := ⟨_, rfl⟩
          rw [← e239]
          have H := H h238 e239
          have K241 : mxK h233 h238 := e239 ▸ KW_197
          have G240 : mxG h238 := mxK_G K241 G235
          refine wp_steps (i' := 60) (ls' := [some (.ref 381), some (.int i1), some (.int x139), some (.int x145), some (.int x151), some (.int x232), some (.int (mx_i h233 382 3))]) (st' := [.int x145, .int 1, .int (mx_i h233 382 3), .ref 381]) (h' := h238) (P := True) 4 rfl rfl trivial ?_
          obtain ⟨o242, H⟩ := H
          refine wp_call (b := false) (y' := 197) (as := [.ref 381, .int (mx_i h233 382 3), .int 1, .int x145]) (rest := []) (P := ((mxT 381).1 = mxRc 197 ∧ mxG h238)) rfl (by with_unfolding_all rfl) ⟨(congrArg Prod.fst sT_381), G240⟩ (Nat.le_of_ble_eq_true rfl) (sp_197 G240 o242 ?_)
          show mx_wp (d + 6) 217 61 [some (.ref 381), some (.int i1), some (.int x139), some (.int x145), some (.int x151), some (.int x232), some (.int (mx_i h233 382 3))] [] (W_197 h238 (mx_i h233 382 3) (1 : Int32) x145) Q
          obtain ⟨h243, e244⟩ : ∃ z9, z9 = W_197 h238 (mx_i h233 382 3) (1 : Int32) x145 := ⟨_, rfl⟩
          rw [← e244]
          have H := H h243 e244
          have K246 : mxK h238 h243 := e244 ▸ KW_197
          have G245 : mxG h243 := mxK_G K246 G240
          refine wp_steps (i' := 65) (ls' := [some (.ref 381), some (.int i1), some (.int x139), some (.int x145), some (.int x151), some (.int x232), some (.int (mx_i h233 382 3))]) (st' := [.int x151, .int 2, .int (mx_i h233 382 3), .ref 381]) (h' := h243) (P := True) 4 rfl rfl trivial ?_
          obtain ⟨o247, H⟩ := H
          refine wp_call (b := false) (y' := 197) (as := [.ref 381, .int (mx_i h233 382 3), .int 2, .int x151]) (rest := []) (P := ((mxT 381).1 = mxRc 197 ∧ mxG h243)) rfl (by with_unfolding_all rfl) ⟨(congrArg Prod.fst sT_381), G245⟩ (Nat.le_of_ble_eq_true rfl) (sp_197 G245 o247 ?_)
          show mx_wp (d + 6) 217 66 [some (.ref 381), some (.int i1), some (.int x139), some (.int x145), some (.int x151), some (.int x232), some (.int (mx_i h233 382 3))] [] (W_197 h243 (mx_i h233 382 3) (2 : Int32) x151) Q
          obtain ⟨h248, e249⟩ : ∃ z9, z9 = W_197 h243 (mx_i h233 382 3) (2 : Int32) x151 := ⟨_, rfl⟩
          rw [← e249]
          have H := H h248 e249
          have K251 : mxK h243 h248 := e249 ▸ KW_197
          have G250 : mxG h248 := mxK_G K251 G245
          refine wp_steps (i' := 70) (ls' := [some (.ref 381), some (.int i1), some (.int x139), some (.int x145), some (.int x151), some (.int x232), some (.int (mx_i h233 382 3))]) (st' := [.int x232, .int 3, .int (mx_i h233 382 3), .ref 381]) (h' := h248) (P := True) 4 rfl rfl trivial ?_
          obtain ⟨o252, H⟩ := H
          refine wp_call (b := false) (y' := 197) (as := [.ref 381, .int (mx_i h233 382 3), .int 3, .int x232]) (rest := []) (P := ((mxT 381).1 = mxRc 197 ∧ mxG h248)) rfl (by with_unfolding_all rfl) ⟨(congrArg Prod.fst sT_381), G250⟩ (Nat.le_of_ble_eq_true rfl) (sp_197 G250 o252 ?_)
          show mx_wp (d + 6) 217 71 [some (.ref 381), some (.int i1), some (.int x139), some (.int x145), some (.int x151), some (.int x232), some (.int (mx_i h233 382 3))] [] (W_197 h248 (mx_i h233 382 3) (3 : Int32) x232) Q
          obtain ⟨h253, e254⟩ : ∃ z9, z9 = W_197 h248 (mx_i h233 382 3) (3 : Int32) x232 := ⟨_, rfl⟩
          rw [← e254]
          have H := H h253 e254
          have K256 : mxK h248 h253 := e254 ▸ KW_197
          have G255 : mxG h253 := mxK_G K256 G250
          refine wp_steps (i' := 75) (ls' := [some (.ref 381), some (.int i1), some (.int x139), some (.int x145), some (.int x151), some (.int x232), some (.int (mx_i h233 382 3))]) (st' := [.int 0, .int 4, .int (mx_i h233 382 3), .ref 381]) (h' := h253) (P := True) 4 rfl rfl trivial ?_
          obtain ⟨o257, H⟩ := H
          refine wp_call (b := false) (y' := 197) (as := [.ref 381, .int (mx_i h233 382 3), .int 4, .int 0]) (rest := []) (P := ((mxT 381).1 = mxRc 197 ∧ mxG h253)) rfl (by with_unfolding_all rfl) ⟨(congrArg Prod.fst sT_381), G255⟩ (Nat.le_of_ble_eq_true rfl) (sp_197 G255 o257 ?_)
          show mx_wp (d + 6) 217 76 [some (.ref 381), some (.int i1), some (.int x139), some (.int x145), some (.int x151), some (.int x232), some (.int (mx_i h233 382 3))] [] (W_197 h253 (mx_i h233 382 3) (4 : Int32) (0 : Int32)) Q
          obtain ⟨h258, e259⟩ : ∃ z9, z9 = W_197 h253 (mx_i h233 382 3) (4 : Int32) (0 : Int32) := ⟨_, rfl⟩
          rw [← e259]
          have H := H h258 e259
          have K261 : mxK h253 h258 := e259 ▸ KW_197
          have G260 : mxG h258 := mxK_G K261 G255
          refine wp_steps (i' := 80) (ls' := [some (.ref 381), some (.int i1), some (.int x139), some (.int x145), some (.int x151), some (.int x232), some (.int (mx_i h233 382 3))]) (st' := [.int 0, .int 5, .int (mx_i h233 382 3), .ref 381]) (h' := h258) (P := True) 4 rfl rfl trivial ?_
          obtain ⟨o262, H⟩ := H
          refine wp_call (b := false) (y' := 197) (as := [.ref 381, .int (mx_i h233 382 3), .int 5, .int 0]) (rest := []) (P := ((mxT 381).1 = mxRc 197 ∧ mxG h258)) rfl (by with_unfolding_all rfl) ⟨(congrArg Prod.fst sT_381), G260⟩ (Nat.le_of_ble_eq_true rfl) (sp_197 G260 o262 ?_)
          show mx_wp (d + 6) 217 81 [some (.ref 381), some (.int i1), some (.int x139), some (.int x145), some (.int x151), some (.int x232), some (.int (mx_i h233 382 3))] [] (W_197 h258 (mx_i h233 382 3) (5 : Int32) (0 : Int32)) Q
          obtain ⟨h263, e264⟩ : ∃ z9, z9 = W_197 h258 (mx_i h233 382 3) (5 : Int32) (0 : Int32) := ⟨_, rfl⟩
          rw [← e264]
          have H := H h263 e264
          have K266 : mxK h258 h263 := e264 ▸ KW_197
          have G265 : mxG h263 := mxK_G K266 G260
          refine wp_steps (i' := 89) (ls' := [some (.ref 381), some (.int i1), some (.int x139), some (.int x145), some (.int x151), some (.int x232), some (.int (mx_i h233 382 3))]) (st' := []) (h' := mx_wi h263 382 3 ((mx_i h263 382 3) + 1)) (P := ((mxT 381).1 = 11 ∧ mxG h263) ∧ (((mxT 382).1 = 50 ∧ mxG h263) ∧ vp_in 3 (mxT 382).2) ∧ (((mxT 382).1 = 50 ∧ mxG h263) ∧ vp_in 3 (mxT 382).2) ∧ True) 8 rfl rfl ⟨⟨(congrArg Prod.fst sT_381), G265⟩, (cA sT_382 G265 (vpl rfl)), (cA sT_382 G265 (vpl rfl)), trivial⟩ ?_
          obtain ⟨h267, e268⟩ : ∃ z9, z9 = mx_wi h263 382 3 ((mx_i h263 382 3) + 1) := ⟨_, rfl⟩
          rw [← e268]
          have H := H h267 e268
          have G269 : mxG h267 := e268 ▸ mxG_wi G265
          exact wp_end (o := .inl none) (h' := h267) (P := True) rfl rfl trivial H
        · skip
          have H := H.2 c236
          exact wp_end (o := .inl none) (h' := h233) (P := True) rfl rfl trivial H
/-! 219: StoneBacksModel.stoneLine(I)V -/
set_option maxRecDepth 8000 in
theorem tr_219_0 {d : Nat} {h : mxH} {Q : mxO → mxH → Prop} {i1 : Int32} (G : mxG h)  (H : (((mx_i h 382 4) = 10 → (∀ h68, h68 = W_213 h i1 → (okT h68 ∧ (∀ (x73 : Int32) (h74 : mxH), p215 (1 : Int32) (40 : Int32) h68 x73 h74 → (okT h74 ∧ (30 ≤ 38 ∧ 38 < 82 ∧ 38 % 2 = 0) ∧ (∀ (x79 : Int32) (h80 : mxH), p216 38 (0 : Int32) ((mx_i h74 382 3) - 1) h74 x79 h80 → (okT h80 ∧ (30 ≤ 40 ∧ 40 < 82 ∧ 40 % 2 = 0) ∧ cB (mx_i h80 382 3) 6 ∧ (∀ (x86 : Int32) (h87 : mxH), p218 40 x79 h80 x86 h87 → (((mx_i h87 381 12) = (-1) → (okT h87 ∧ (30 ≤ 42 ∧ 42 < 82 ∧ 42 % 2 = 0) ∧ (∀ (x104 : Int32) (h105 : mxH), p212 42 h87 x104 h105 → ((x104 = 0 → (((mx_i h105 381 12) = (-1) → (vp_in ((69 + (6 * (mx_i h105 382 4))) + (0 : Int32)) 769 ∧ vp_in ((69 + (6 * (mx_i h105 382 4))) + (1 : Int32)) 769 ∧ vp_in ((69 + (6 * (mx_i h105 382 4))) + (2 : Int32)) 769 ∧ vp_in ((69 + (6 * (mx_i h105 382 4))) + (3 : Int32)) 769 ∧ vp_in ((69 + (6 * (mx_i h105 382 4))) + (4 : Int32)) 769 ∧ vp_in ((69 + (6 * (mx_i h105 382 4))) + (5 : Int32)) 769 ∧ (∀ h116, h116 = W_220 h105 x79 x86 x73 x79 → Q (.inl none) h116))) ∧ (¬ (mx_i h105 381 12) = (-1) → Q (.inl none) h105))) ∧ (¬ x104 = 0 → (okT h105 ∧ (30 ≤ 44 ∧ 44 < 82 ∧ 44 % 2 = 0) ∧ cB (mx_i h105 382 3) 6 ∧ (∀ (x123 : Int32) (h124 : mxH), p218 44 x86 h105 x123 h124 → (((mx_i h124 381 12) = (-1) → (vp_in ((69 + (6 * (mx_i h124 382 4))) + (0 : Int32)) 769 ∧ vp_in ((69 + (6 * (mx_i h124 382 4))) + (1 : Int32)) 769 ∧ vp_in ((69 + (6 * (mx_i h124 382 4))) + (2 : Int32)) 769 ∧ vp_in ((69 + (6 * (mx_i h124 382 4))) + (3 : Int32)) 769 ∧ vp_in ((69 + (6 * (mx_i h124 382 4))) + (4 : Int32)) 769 ∧ vp_in ((69 + (6 * (mx_i h124 382 4))) + (5 : Int32)) 769 ∧ (∀ h134, h134 = W_220 h124 x79 x86 x73 x123 → Q (.inl none) h134))) ∧ (¬ (mx_i h124 381 12) = (-1) → Q (.inl none) h124))))))))) ∧ (¬ (mx_i h87 381 12) = (-1) → (((mx_i h87 381 12) = (-1) → (vp_in ((69 + (6 * (mx_i h87 382 4))) + (0 : Int32)) 769 ∧ vp_in ((69 + (6 * (mx_i h87 382 4))) + (1 : Int32)) 769 ∧ vp_in ((69 + (6 * (mx_i h87 382 4))) + (2 : Int32)) 769 ∧ vp_in ((69 + (6 * (mx_i h87 382 4))) + (3 : Int32)) 769 ∧ vp_in ((69 + (6 * (mx_i h87 382 4))) + (4 : Int32)) 769 ∧ vp_in ((69 + (6 * (mx_i h87 382 4))) + (5 : Int32)) 769 ∧ (∀ h98, h98 = W_220 h87 x79 x86 x73 x79 → Q (.inl none) h98))) ∧ (¬ (mx_i h87 381 12) = (-1) → Q (.inl none) h87)))))))))))) ∧ (¬ (mx_i h 382 4) = 10 → (okT h ∧ (∀ (x3 : Int32) (h4 : mxH), p215 (1 : Int32) (40 : Int32) h x3 h4 → (okT h4 ∧ (30 ≤ 38 ∧ 38 < 82 ∧ 38 % 2 = 0) ∧ (∀ (x9 : Int32) (h10 : mxH), p216 38 (0 : Int32) ((mx_i h4 382 3) - 1) h4 x9 h10 → (okT h10 ∧ (30 ≤ 40 ∧ 40 < 82 ∧ 40 % 2 = 0) ∧ cB (mx_i h10 382 3) 6 ∧ (∀ (x16 : Int32) (h17 : mxH), p218 40 x9 h10 x16 h17 → (((mx_i h17 381 12) = (-1) → (okT h17 ∧ (30 ≤ 42 ∧ 42 < 82 ∧ 42 % 2 = 0) ∧ (∀ (x34 : Int32) (h35 : mxH), p212 42 h17 x34 h35 → ((x34 = 0 → (((mx_i h35 381 12) = (-1) → (vp_in ((69 + (6 * (mx_i h35 382 4))) + (0 : Int32)) 769 ∧ vp_in ((69 + (6 * (mx_i h35 382 4))) + (1 : Int32)) 769 ∧ vp_in ((69 + (6 * (mx_i h35 382 4))) + (2 : Int32)) 769 ∧ vp_in ((69 + (6 * (mx_i h35 382 4))) + (3 : Int32)) 769 ∧ vp_in ((69 + (6 * (mx_i h35 382 4))) + (4 : Int32)) 769 ∧ vp_in ((69 + (6 * (mx_i h35 382 4))) + (5 : Int32)) 769 ∧ (∀ h46, h46 = W_220 h35 x9 x16 x3 x9 → Q (.inl none) h46))) ∧ (¬ (mx_i h35 381 12) = (-1) → Q (.inl none) h35))) ∧ (¬ x34 = 0 → (okT h35 ∧ (30 ≤ 44 ∧ 44 < 82 ∧ 44 % 2 = 0) ∧ cB (mx_i h35 382 3) 6 ∧ (∀ (x53 : Int32) (h54 : mxH), p218 44 x16 h35 x53 h54 → (((mx_i h54 381 12) = (-1) → (vp_in ((69 + (6 * (mx_i h54 382 4))) + (0 : Int32)) 769 ∧ vp_in ((69 + (6 * (mx_i h54 382 4))) + (1 : Int32)) 769 ∧ vp_in ((69 + (6 * (mx_i h54 382 4))) + (2 : Int32)) 769 ∧ vp_in ((69 + (6 * (mx_i h54 382 4))) + (3 : Int32)) 769 ∧ vp_in ((69 + (6 * (mx_i h54 382 4))) + (4 : Int32)) 769 ∧ vp_in ((69 + (6 * (mx_i h54 382 4))) + (5 : Int32)) 769 ∧ (∀ h64, h64 = W_220 h54 x9 x16 x3 x53 → Q (.inl none) h64))) ∧ (¬ (mx_i h54 381 12) = (-1) → Q (.inl none) h54))))))))) ∧ (¬ (mx_i h17 381 12) = (-1) → (((mx_i h17 381 12) = (-1) → (vp_in ((69 + (6 * (mx_i h17 382 4))) + (0 : Int32)) 769 ∧ vp_in ((69 + (6 * (mx_i h17 382 4))) + (1 : Int32)) 769 ∧ vp_in ((69 + (6 * (mx_i h17 382 4))) + (2 : Int32)) 769 ∧ vp_in ((69 + (6 * (mx_i h17 382 4))) + (3 : Int32)) 769 ∧ vp_in ((69 + (6 * (mx_i h17 382 4))) + (4 : Int32)) 769 ∧ vp_in ((69 + (6 * (mx_i h17 382 4))) + (5 : Int32)) 769 ∧ (∀ h28, h28 = W_220 h17 x9 x16 x3 x9 → Q (.inl none) h28))) ∧ (¬ (mx_i h17 381 12) = (-1) → Q (.inl none) h17))))))))))))) : mx_wp (d + 6) 219 0 (mx_fr 219 [.ref 381, .int i1]) [] h Q := by
  show mx_wp (d + 6) 219 0 [some (.ref 381), some (.int i1), none, none, none, none] [] h Q
  refine wp_steps (i' := 5) (ls' := [some (.ref 381), some (.int i1), none, none, none, none]) (st' := [.int 10, .int (mx_i h 382 4)]) (h' := h) (P := ((mxT 381).1 = 11 ∧ mxG h) ∧ (((mxT 382).1 = 50 ∧ mxG h) ∧ vp_in 4 (mxT 382).2) ∧ True) 5 rfl rfl ⟨⟨(congrArg Prod.fst sT_381), G⟩, (cA sT_382 G (vpl rfl)), trivial⟩ ?_
  refine wp_br (P := True) (c := ¬ (mx_i h 382 4) = 10) (t := 9) (st' := []) rfl rfl trivial (fun c1 => ?_) (fun c1 => ?_)
  · skip
    have H := H.2 c1
    refine wp_steps (i' := 12) (ls' := [some (.ref 381), some (.int i1), none, none, none, none]) (st' := [.int 40, .int 1, .ref 381]) (h' := h) (P := True) 3 rfl rfl trivial ?_
    obtain ⟨o2, H⟩ := H
    refine wp_call (b := false) (y' := 215) (as := [.ref 381, .int 1, .int 40]) (rest := []) (P := ((mxT 381).1 = mxRc 215 ∧ mxG h)) rfl (by with_unfolding_all rfl) ⟨(congrArg Prod.fst sT_381), G⟩ (Nat.le_of_ble_eq_true rfl) (sp_215 G o2 ?_)
    intro x3 h4 p5
    show mx_wp (d + 6) 219 13 [some (.ref 381), some (.int i1), none, none, none, none] [.int x3] h4 Q
    have H := H x3 h4 p5
    have G6 : mxG h4 := mxK_G p5.1 G
    refine wp_steps (i' := 23) (ls' := [some (.ref 381), some (.int i1), some (.int x3), none, none, none]) (st' := [.int ((mx_i h4 382 3) - 1), .int 0, .ref 38, .ref 381]) (h' := h4) (P := ((mxT 381).1 = 11 ∧ mxG h4) ∧ (((mxT 382).1 = 50 ∧ mxG h4) ∧ vp_in 3 (mxT 382).2) ∧ True) 10 rfl rfl ⟨⟨(congrArg Prod.fst sT_381), G6⟩, (cA sT_382 G6 (vpl rfl)), trivial⟩ ?_
    obtain ⟨o7, o8, H⟩ := H
    refine wp_call (b := false) (y' := 216) (as := [.ref 381, .ref 38, .int 0, .int ((mx_i h4 382 3) - 1)]) (rest := []) (P := ((mxT 381).1 = mxRc 216 ∧ mxG h4)) rfl (by with_unfolding_all rfl) ⟨(congrArg Prod.fst sT_381), G6⟩ (Nat.le_of_ble_eq_true rfl) (sp_216 G6 o7 o8 ?_)
    intro x9 h10 p11
    show mx_wp (d + 6) 219 24 [some (.ref 381), some (.int i1), some (.int x3), none, none, none] [.int x9] h10 Q
    have H := H x9 h10 p11
    have G12 : mxG h10 := mxK_G p11.1 G6
    refine wp_steps (i' := 28) (ls' := [some (.ref 381), some (.int i1), some (.int x3), some (.int x9), none, none]) (st' := [.int x9, .ref 40, .ref 381]) (h' := h10) (P := True) 4 rfl rfl trivial ?_
    obtain ⟨o13, o14, o15, H⟩ := H
    refine wp_call (b := false) (y' := 218) (as := [.ref 381, .ref 40, .int x9]) (rest := []) (P := ((mxT 381).1 = mxRc 218 ∧ mxG h10)) rfl (by with_unfolding_all rfl) ⟨(congrArg Prod.fst sT_381), G12⟩ (Nat.le_of_ble_eq_true rfl) (sp_218 G12 o13 o14 o15 ?_)
    intro x16 h17 p18
    show mx_wp (d + 6) 219 29 [some (.ref 381), some (.int i1), some (.int x3), some (.int x9), none, none] [.int x16] h17 Q
    have H := H x16 h17 p18
    have G19 : mxG h17 := mxK_G p18.1 G12
    refine wp_steps (i' := 33) (ls' := [some (.ref 381), some (.int i1), some (.int x3), some (.int x9), some (.int x16), none]) (st' := [.int (-1), .int (mx_i h17 381 12)]) (h' := h17) (P := ((mxT 381).1 = 11 ∧ mxG h17) ∧ True) 4 rfl rfl ⟨⟨(congrArg Prod.fst sT_381), G19⟩, trivial⟩ ?_
    refine wp_br (P := True) (c := ¬ (mx_i h17 381 12) = (-1)) (t := 43) (st' := []) rfl rfl trivial (fun c20 => ?_) (fun c20 => ?_)
    · skip
      have H := H.2 c20
      refine wp_steps (i' := 48) (ls' := [some (.ref 381), some (.int i1), some (.int x3), some (.int x9), some (.int x16), some (.int x9)]) (st' := [.int (-1), .int (mx_i h17 381 12)]) (h' := h17) (P := ((mxT 381).1 = 11 ∧ mxG h17) ∧ True) 5 rfl rfl ⟨⟨(congrArg Prod.fst sT_381), G19⟩, trivial⟩ ?_
      refine wp_br (P := True) (c := ¬ (mx_i h17 381 12) = (-1)) (t := 55) (st' := []) rfl rfl trivial (fun c21 => ?_) (fun c21 => ?_)
      · skip
        have H := H.2 c21
        exact wp_end (o := .inl none) (h' := h17) (P := True) rfl rfl trivial H
      · have c21 := Decidable.of_not_not c21
        have H := H.1 c21
        refine wp_steps (i' := 54) (ls' := [some (.ref 381), some (.int i1), some (.int x3), some (.int x9), some (.int x16), some (.int x9)]) (st' := [.int x9, .int x3, .int x16, .int x9, .ref 381]) (h' := h17) (P := True) 5 rfl rfl trivial ?_
        obtain ⟨o22, o23, o24, o25, o26, o27, H⟩ := H
        refine wp_call (b := false) (y' := 220) (as := [.ref 381, .int x9, .int x16, .int x3, .int x9]) (rest := []) (P := ((mxT 381).1 = mxRc 220 ∧ mxG h17)) rfl (by with_unfolding_all rfl) ⟨(congrArg Prod.fst sT_381), G19⟩ (Nat.le_of_ble_eq_true rfl) (sp_220 G19 o22 o23 o24 o25 o26 o27 ?_)
        show mx_wp (d + 6) 219 55 [some (.ref 381), some (.int i1), some (.int x3), some (.int x9), some (.int x16), some (.int x9)] [] (W_220 h17 x9 x16 x3 x9) Q
        obtain ⟨h28, e29⟩ : ∃ z9, z9 = W_220 h17 x9 x16 x3 x9 := ⟨_, rfl⟩
        rw [← e29]
        have H := H h28 e29
        have K31 : mxK h17 h28 := e29 ▸ KW_220
        have G30 : mxG h28 := mxK_G K31 G19
        exact wp_end (o := .inl none) (h' := h28) (P := True) rfl rfl trivial H
    · have c20 := Decidable.of_not_not c20
      have H := H.1 c20
      refine wp_steps (i' := 36) (ls' := [some (.ref 381), some (.int i1), some (.int x3), some (.int x9), some (.int x16), none]) (st' := [.ref 42, .ref 381]) (h' := h17) (P := True) 2 rfl rfl trivial ?_
      obtain ⟨o32, o33, H⟩ := H
      refine wp_call (b := false) (y' := 212) (as := [.ref 381, .ref 42]) (rest := []) (P := ((mxT 381).1 = mxRc 212 ∧ mxG h17)) rfl (by with_unfolding_all rfl) ⟨(congrArg Prod.fst sT_381), G19⟩ (Nat.le_of_ble_eq_true rfl) (sp_212 G19 o32 o33 ?_)
      intro x34 h35 p36
      show mx_wp (d + 6) 219 37 [some (.ref 381), some (.int i1), some (.int x3), some (.int x9), some (.int x16), none] [.int x34] h35 Q
      have H := H x34 h35 p36
      have G37 : mxG h35 := mxK_G p36.1 G19
      refine wp_br (P := True) (c := x34 = 0) (t := 43) (st' := []) rfl rfl trivial (fun c38 => ?_) (fun c38 => ?_)
      · skip
        have H := H.1 c38
        refine wp_steps (i' := 48) (ls' := [some (.ref 381), some (.int i1), some (.int x3), some (.int x9), some (.int x16), some (.int x9)]) (st' := [.int (-1), .int (mx_i h35 381 12)]) (h' := h35) (P := ((mxT 381).1 = 11 ∧ mxG h35) ∧ True) 5 rfl rfl ⟨⟨(congrArg Prod.fst sT_381), G37⟩, trivial⟩ ?_
        refine wp_br (P := True) (c := ¬ (mx_i h35 381 12) = (-1)) (t := 55) (st' := []) rfl rfl trivial (fun c39 => ?_) (fun c39 => ?_)
        · skip
          have H := H.2 c39
          exact wp_end (o := .inl none) (h' := h35) (P := True) rfl rfl trivial H
        · have c39 := Decidable.of_not_not c39
          have H := H.1 c39
          refine wp_steps (i' := 54) (ls' := [some (.ref 381), some (.int i1), some (.int x3), some (.int x9), some (.int x16), some (.int x9)]) (st' := [.int x9, .int x3, .int x16, .int x9, .ref 381]) (h' := h35) (P := True) 5 rfl rfl trivial ?_
          obtain ⟨o40, o41, o42, o43, o44, o45, H⟩ := H
          refine wp_call (b := false) (y' := 220) (as := [.ref 381, .int x9, .int x16, .int x3, .int x9]) (rest := []) (P := ((mxT 381).1 = mxRc 220 ∧ mxG h35)) rfl (by with_unfolding_all rfl) ⟨(congrArg Prod.fst sT_381), G37⟩ (Nat.le_of_ble_eq_true rfl) (sp_220 G37 o40 o41 o42 o43 o44 o45 ?_)
          show mx_wp (d + 6) 219 55 [some (.ref 381), some (.int i1), some (.int x3), some (.int x9), some (.int x16), some (.int x9)] [] (W_220 h35 x9 x16 x3 x9) Q
          obtain ⟨h46, e47⟩ : ∃ z9, z9 = W_220 h35 x9 x16 x3 x9 := ⟨_, rfl⟩
          rw [← e47]
          have H := H h46 e47
          have K49 : mxK h35 h46 := e47 ▸ KW_220
          have G48 : mxG h46 := mxK_G K49 G37
          exact wp_end (o := .inl none) (h' := h46) (P := True) rfl rfl trivial H
      · skip
        have H := H.2 c38
        refine wp_steps (i' := 41) (ls' := [some (.ref 381), some (.int i1), some (.int x3), some (.int x9), some (.int x16), none]) (st' := [.int x16, .ref 44, .ref 381]) (h' := h35) (P := True) 3 rfl rfl trivial ?_
        obtain ⟨o50, o51, o52, H⟩ := H
        refine wp_call (b := false) (y' := 218) (as := [.ref 381, .ref 44, .int x16]) (rest := []) (P := ((mxT 381).1 = mxRc 218 ∧ mxG h35)) rfl (by with_unfolding_all rfl) ⟨(congrArg Prod.fst sT_381), G37⟩ (Nat.le_of_ble_eq_true rfl) (sp_218 G37 o50 o51 o52 ?_)
        intro x53 h54 p55
        show mx_wp (d + 6) 219 42 [some (.ref 381), some (.int i1), some (.int x3), some (.int x9), some (.int x16), none] [.int x53] h54 Q
        have H := H x53 h54 p55
        have G56 : mxG h54 := mxK_G p55.1 G37
        refine wp_J (j := 44) (st' := [.int x53]) rfl rfl ?_
        refine wp_steps (i' := 48) (ls' := [some (.ref 381), some (.int i1), some (.int x3), some (.int x9), some (.int x16), some (.int x53)]) (st' := [.int (-1), .int (mx_i h54 381 12)]) (h' := h54) (P := ((mxT 381).1 = 11 ∧ mxG h54) ∧ True) 4 rfl rfl ⟨⟨(congrArg Prod.fst sT_381), G56⟩, trivial⟩ ?_
        refine wp_br (P := True) (c := ¬ (mx_i h54 381 12) = (-1)) (t := 55) (st' := []) rfl rfl trivial (fun c57 => ?_) (fun c57 => ?_)
        · skip
          have H := H.2 c57
          exact wp_end (o := .inl none) (h' := h54) (P := True) rfl rfl trivial H
        · have c57 := Decidable.of_not_not c57
          have H := H.1 c57
          refine wp_steps (i' := 54) (ls' := [some (.ref 381), some (.int i1), some (.int x3), some (.int x9), some (.int x16), some (.int x53)]) (st' := [.int x53, .int x3, .int x16, .int x9, .ref 381]) (h' := h54) (P := True) 5 rfl rfl trivial ?_
          obtain ⟨o58, o59, o60, o61, o62, o63, H⟩ := H
          refine wp_call (b := false) (y' := 220) (as := [.ref 381, .int x9, .int x16, .int x3, .int x53]) (rest := []) (P := ((mxT 381).1 = mxRc 220 ∧ mxG h54)) rfl (by with_unfolding_all rfl) ⟨(congrArg Prod.fst sT_381), G56⟩ (Nat.le_of_ble_eq_true rfl) (sp_220 G56 o58 o59 o60 o61 o62 o63 ?_)
          show mx_wp (d + 6) 219 55 [some (.ref 381), some (.int i1), some (.int x3), some (.int x9), some (.int x16), some (.int x53)] [] (W_220 h54 x9 x16 x3 x53) Q
          obtain ⟨h64, e65⟩ : ∃ z9, z9 = W_220 h54 x9 x16 x3 x53 := ⟨_, rfl⟩
          rw [← e65]
          have H := H h64 e65
          have K67 : mxK h54 h64 := e65 ▸ KW_220
          have G66 : mxG h64 := mxK_G K67 G56
          exact wp_end (o := .inl none) (h' := h64) (P := True) rfl rfl trivial H
  · have c1 := Decidable.of_not_not c1
    have H := H.1 c1
    refine wp_steps (i' := 8) (ls' := [some (.ref 381), some (.int i1), none, none, none, none]) (st' := [.int i1, .ref 381]) (h' := h) (P := True) 2 rfl rfl trivial ?_
    refine wp_call (b := false) (y' := 213) (as := [.ref 381, .int i1]) (rest := []) (P := ((mxT 381).1 = mxRc 213 ∧ mxG h)) rfl (by with_unfolding_all rfl) ⟨(congrArg Prod.fst sT_381), G⟩ (Nat.le_of_ble_eq_true rfl) (sp_213 G ?_)
    show mx_wp (d + 6) 219 9 [some (.ref 381), some (.int i1), none, none, none, none] [] (W_213 h i1) Q
    obtain ⟨h68, e69⟩ : ∃ z9, z9 = W_213 h i1 := ⟨_, rfl⟩
    rw [← e69]
    have H := H h68 e69
    have K71 : mxK h h68 := e69 ▸ KW_213
    have G70 : mxG h68 := mxK_G K71 G
    refine wp_steps (i' := 12) (ls' := [some (.ref 381), some (.int i1), none, none, none, none]) (st' := [.int 40, .int 1, .ref 381]) (h' := h68) (P := True) 3 rfl rfl trivial ?_
    obtain ⟨o72, H⟩ := H
    refine wp_call (b := false) (y' := 215) (as := [.ref 381, .int 1, .int 40]) (rest := []) (P := ((mxT 381).1 = mxRc 215 ∧ mxG h68)) rfl (by with_unfolding_all rfl) ⟨(congrArg Prod.fst sT_381), G70⟩ (Nat.le_of_ble_eq_true rfl) (sp_215 G70 o72 ?_)
    intro x73 h74 p75
    show mx_wp (d + 6) 219 13 [some (.ref 381), some (.int i1), none, none, none, none] [.int x73] h74 Q
    have H := H x73 h74 p75
    have G76 : mxG h74 := mxK_G p75.1 G70
    refine wp_steps (i' := 23) (ls' := [some (.ref 381), some (.int i1), some (.int x73), none, none, none]) (st' := [.int ((mx_i h74 382 3) - 1), .int 0, .ref 38, .ref 381]) (h' := h74) (P := ((mxT 381).1 = 11 ∧ mxG h74) ∧ (((mxT 382).1 = 50 ∧ mxG h74) ∧ vp_in 3 (mxT 382).2) ∧ True) 10 rfl rfl ⟨⟨(congrArg Prod.fst sT_381), G76⟩, (cA sT_382 G76 (vpl rfl)), trivial⟩ ?_
    obtain ⟨o77, o78, H⟩ := H
    refine wp_call (b := false) (y' := 216) (as := [.ref 381, .ref 38, .int 0, .int ((mx_i h74 382 3) - 1)]) (rest := []) (P := ((mxT 381).1 = mxRc 216 ∧ mxG h74)) rfl (by with_unfolding_all rfl) ⟨(congrArg Prod.fst sT_381), G76⟩ (Nat.le_of_ble_eq_true rfl) (sp_216 G76 o77 o78 ?_)
    intro x79 h80 p81
    show mx_wp (d + 6) 219 24 [some (.ref 381), some (.int i1), some (.int x73), none, none, none] [.int x79] h80 Q
    have H := H x79 h80 p81
    have G82 : mxG h80 := mxK_G p81.1 G76
    refine wp_steps (i' := 28) (ls' := [some (.ref 381), some (.int i1), some (.int x73), some (.int x79), none, none]) (st' := [.int x79, .ref 40, .ref 381]) (h' := h80) (P := True) 4 rfl rfl trivial ?_
    obtain ⟨o83, o84, o85, H⟩ := H
    refine wp_call (b := false) (y' := 218) (as := [.ref 381, .ref 40, .int x79]) (rest := []) (P := ((mxT 381).1 = mxRc 218 ∧ mxG h80)) rfl (by with_unfolding_all rfl) ⟨(congrArg Prod.fst sT_381), G82⟩ (Nat.le_of_ble_eq_true rfl) (sp_218 G82 o83 o84 o85 ?_)
    intro x86 h87 p88
    show mx_wp (d + 6) 219 29 [some (.ref 381), some (.int i1), some (.int x73), some (.int x79), none, none] [.int x86] h87 Q
    have H := H x86 h87 p88
    have G89 : mxG h87 := mxK_G p88.1 G82
    refine wp_steps (i' := 33) (ls' := [some (.ref 381), some (.int i1), some (.int x73), some (.int x79), some (.int x86), none]) (st' := [.int (-1), .int (mx_i h87 381 12)]) (h' := h87) (P := ((mxT 381).1 = 11 ∧ mxG h87) ∧ True) 4 rfl rfl ⟨⟨(congrArg Prod.fst sT_381), G89⟩, trivial⟩ ?_
    refine wp_br (P := True) (c := ¬ (mx_i h87 381 12) = (-1)) (t := 43) (st' := []) rfl rfl trivial (fun c90 => ?_) (fun c90 => ?_)
    · skip
      have H := H.2 c90
      refine wp_steps (i' := 48) (ls' := [some (.ref 381), some (.int i1), some (.int x73), some (.int x79), some (.int x86), some (.int x79)]) (st' := [.int (-1), .int (mx_i h87 381 12)]) (h' := h87) (P := ((mxT 381).1 = 11 ∧ mxG h87) ∧ True) 5 rfl rfl ⟨⟨(congrArg Prod.fst sT_381), G89⟩, trivial⟩ ?_
      refine wp_br (P := True) (c := ¬ (mx_i h87 381 12) = (-1)) (t := 55) (st' := []) rfl rfl trivial (fun c91 => ?_) (fun c91 => ?_)
      · skip
        have H := H.2 c91
        exact wp_end (o := .inl none) (h' := h87) (P := True) rfl rfl trivial H
      · have c91 := Decidable.of_not_not c91
        have H := H.1 c91
        refine wp_steps (i' := 54) (ls' := [some (.ref 381), some (.int i1), some (.int x73), some (.int x79), some (.int x86), some (.int x79)]) (st' := [.int x79, .int x73, .int x86, .int x79, .ref 381]) (h' := h87) (P := True) 5 rfl rfl trivial ?_
        obtain ⟨o92, o93, o94, o95, o96, o97, H⟩ := H
        refine wp_call (b := false) (y' := 220) (as := [.ref 381, .int x79, .int x86, .int x73, .int x79]) (rest := []) (P := ((mxT 381).1 = mxRc 220 ∧ mxG h87)) rfl (by with_unfolding_all rfl) ⟨(congrArg Prod.fst sT_381), G89⟩ (Nat.le_of_ble_eq_true rfl) (sp_220 G89 o92 o93 o94 o95 o96 o97 ?_)
        show mx_wp (d + 6) 219 55 [some (.ref 381), some (.int i1), some (.int x73), some (.int x79), some (.int x86), some (.int x79)] [] (W_220 h87 x79 x86 x73 x79) Q
        obtain ⟨h98, e99⟩ : ∃ z9, z9 = W_220 h87 x79 x86 x73 x79 := ⟨_, rfl⟩
        rw [← e99]
        have H := H h98 e99
        have K101 : mxK h87 h98 := e99 ▸ KW_220
        have G100 : mxG h98 := mxK_G K101 G89
        exact wp_end (o := .inl none) (h' := h98) (P := True) rfl rfl trivial H
    · have c90 := Decidable.of_not_not c90
      have H := H.1 c90
      refine wp_steps (i' := 36) (ls' := [some (.ref 381), some (.int i1), some (.int x73), some (.int x79), some (.int x86), none]) (st' := [.ref 42, .ref 381]) (h' := h87) (P := True) 2 rfl rfl trivial ?_
      obtain ⟨o102, o103, H⟩ := H
      refine wp_call (b := false) (y' := 212) (as := [.ref 381, .ref 42]) (rest := []) (P := ((mxT 381).1 = mxRc 212 ∧ mxG h87)) rfl (by with_unfolding_all rfl) ⟨(congrArg Prod.fst sT_381), G89⟩ (Nat.le_of_ble_eq_true rfl) (sp_212 G89 o102 o103 ?_)
      intro x104 h105 p106
      show mx_wp (d + 6) 219 37 [some (.ref 381), some (.int i1), some (.int x73), some (.int x79), some (.int x86), none] [.int x104] h105 Q
      have H := H x104 h105 p106
      have G107 : mxG h105 := mxK_G p106.1 G89
      refine wp_br (P := True) (c := x104 = 0) (t := 43) (st' := []) rfl rfl trivial (fun c108 => ?_) (fun c108 => ?_)
      · skip
        have H := H.1 c108
        refine wp_steps (i' := 48) (ls' := [some (.ref 381), some (.int i1), some (.int x73), some (.int x79), some (.int x86), some (.int x79)]) (st' := [.int (-1), .int (mx_i h105 381 12)]) (h' := h105) (P := ((mxT 381).1 = 11 ∧ mxG h105) ∧ True) 5 rfl rfl ⟨⟨(congrArg Prod.fst sT_381), G107⟩, trivial⟩ ?_
        refine wp_br (P := True) (c := ¬ (mx_i h105 381 12) = (-1)) (t := 55) (st' := []) rfl rfl trivial (fun c109 => ?_) (fun c109 => ?_)
        · skip
          have H := H.2 c109
          exact wp_end (o := .inl none) (h' := h105) (P := True) rfl rfl trivial H
        · have c109 := Decidable.of_not_not c109
          have H := H.1 c109
          refine wp_steps (i' := 54) (ls' := [some (.ref 381), some (.int i1), some (.int x73), some (.int x79), some (.int x86), some (.int x79)]) (st' := [.int x79, .int x73, .int x86, .int x79, .ref 381]) (h' := h105) (P := True) 5 rfl rfl trivial ?_
          obtain ⟨o110, o111, o112, o113, o114, o115, H⟩ := H
          refine wp_call (b := false) (y' := 220) (as := [.ref 381, .int x79, .int x86, .int x73, .int x79]) (rest := []) (P := ((mxT 381).1 = mxRc 220 ∧ mxG h105)) rfl (by with_unfolding_all rfl) ⟨(congrArg Prod.fst sT_381), G107⟩ (Nat.le_of_ble_eq_true rfl) (sp_220 G107 o110 o111 o112 o113 o114 o115 ?_)
          show mx_wp (d + 6) 219 55 [some (.ref 381), some (.int i1), some (.int x73), some (.int x79), some (.int x86), some (.int x79)] [] (W_220 h105 x79 x86 x73 x79) Q
          obtain ⟨h116, e117⟩ : ∃ z9, z9 = W_220 h105 x79 x86 x73 x79 := ⟨_, rfl⟩
          rw [← e117]
          have H := H h116 e117
          have K119 : mxK h105 h116 := e117 ▸ KW_220
          have G118 : mxG h116 := mxK_G K119 G107
          exact wp_end (o := .inl none) (h' := h116) (P := True) rfl rfl trivial H
      · skip
        have H := H.2 c108
        refine wp_steps (i' := 41) (ls' := [some (.ref 381), some (.int i1), some (.int x73), some (.int x79), some (.int x86), none]) (st' := [.int x86, .ref 44, .ref 381]) (h' := h105) (P := True) 3 rfl rfl trivial ?_
        obtain ⟨o120, o121, o122, H⟩ := H
        refine wp_call (b := false) (y' := 218) (as := [.ref 381, .ref 44, .int x86]) (rest := []) (P := ((mxT 381).1 = mxRc 218 ∧ mxG h105)) rfl (by with_unfolding_all rfl) ⟨(congrArg Prod.fst sT_381), G107⟩ (Nat.le_of_ble_eq_true rfl) (sp_218 G107 o120 o121 o122 ?_)
        intro x123 h124 p125
        show mx_wp (d + 6) 219 42 [some (.ref 381), some (.int i1), some (.int x73), some (.int x79), some (.int x86), none] [.int x123] h124 Q
        have H := H x123 h124 p125
        have G126 : mxG h124 := mxK_G p125.1 G107
        refine wp_J (j := 44) (st' := [.int x123]) rfl rfl ?_
        refine wp_steps (i' := 48) (ls' := [some (.ref 381), some (.int i1), some (.int x73), some (.int x79), some (.int x86), some (.int x123)]) (st' := [.int (-1), .int (mx_i h124 381 12)]) (h' := h124) (P := ((mxT 381).1 = 11 ∧ mxG h124) ∧ True) 4 rfl rfl ⟨⟨(congrArg Prod.fst sT_381), G126⟩, trivial⟩ ?_
        refine wp_br (P := True) (c := ¬ (mx_i h124 381 12) = (-1)) (t := 55) (st' := []) rfl rfl trivial (fun c127 => ?_) (fun c127 => ?_)
        · skip
          have H := H.2 c127
          exact wp_end (o := .inl none) (h' := h124) (P := True) rfl rfl trivial H
        · have c127 := Decidable.of_not_not c127
          have H := H.1 c127
          refine wp_steps (i' := 54) (ls' := [some (.ref 381), some (.int i1), some (.int x73), some (.int x79), some (.int x86), some (.int x123)]) (st' := [.int x123, .int x73, .int x86, .int x79, .ref 381]) (h' := h124) (P := True) 5 rfl rfl trivial ?_
          obtain ⟨o128, o129, o130, o131, o132, o133, H⟩ := H
          refine wp_call (b := false) (y' := 220) (as := [.ref 381, .int x79, .int x86, .int x73, .int x123]) (rest := []) (P := ((mxT 381).1 = mxRc 220 ∧ mxG h124)) rfl (by with_unfolding_all rfl) ⟨(congrArg Prod.fst sT_381), G126⟩ (Nat.le_of_ble_eq_true rfl) (sp_220 G126 o128 o129 o130 o131 o132 o133 ?_)
          show mx_wp (d + 6) 219 55 [some (.ref 381), some (.int i1), some (.int x73), some (.int x79), some (.int x86), some (.int x123)] [] (W_220 h124 x79 x86 x73 x123) Q
          obtain ⟨h134, e135⟩ : ∃ z9, z9 = W_220 h124 x79 x86 x73 x123 := ⟨_, rfl⟩
          rw [← e135]
          have H := H h134 e135
          have K137 : mxK h124 h134 := e135 ▸ KW_220
          have G136 : mxG h134 := mxK_G K137 G126
          exact wp_end (o := .inl none) (h' := h134) (P := True) rfl rfl trivial H
