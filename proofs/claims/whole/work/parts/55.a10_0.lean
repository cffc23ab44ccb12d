/-! 35: StoneBacks$LawText.readAtom(LStoneBacks$Tape;LStoneBacks$Law;)Z -/
set_option maxRecDepth 8000 in
theorem tr_35_0 {d : Nat} {h : mxH} {Q : mxO → mxH → Prop} {b : Nat} (G : mxG h) (hVb : (mxT b).1 = 3) (H : (okC h ∧ (3 ≤ 20 ∧ 20 < 29) ∧ (∀ (x3 : Int32) (h4 : mxH), p96 20 h x3 h4 → ((x3 = 0 → (okC h4 ∧ (3 ≤ 21 ∧ 21 < 29) ∧ (∀ (x10 : Int32) (h11 : mxH), p96 21 h4 x10 h11 → ((x10 = 0 → ((∃ a, atC h11 b a) ∧ (∀ (x16 : Int32) (h17 : mxH), p36 b h11 x16 h17 → ((x16 = 0 → Q (.inl (some (.int 0))) h17) ∧ (¬ x16 = 0 → (okC h17 ∧ (∀ (x22 : Int32) (h23 : mxH), p98 (60 : Int32) h17 x22 h23 → ((x22 = 0 → (okC h23 ∧ (∀ (x41 : Int32) (h42 : mxH), p98 (62 : Int32) h23 x41 h42 → ((x41 = 0 → Q (.inl (some (.int 0))) h42) ∧ (¬ x41 = 0 → ((∃ a, atC h42 b a) ∧ (∀ (x47 : Int32) (h48 : mxH), p36 b h42 x47 h48 → ((x47 = 0 → Q (.inl (some (.int 0))) h48) ∧ (¬ x47 = 0 → (∀ (v52 : Int32), v52 = ((if x22 = 0 then 1012 else 1011) : Int32) → (cB (mx_i h48 b 2) 400 ∧ (∀ (h55 : mxH), p23 b v52 h48 h55 → Q (.inl (some (.int 1))) h55)))))))))))) ∧ (¬ x22 = 0 → ((∃ a, atC h23 b a) ∧ (∀ (x28 : Int32) (h29 : mxH), p36 b h23 x28 h29 → ((x28 = 0 → Q (.inl (some (.int 0))) h29) ∧ (¬ x28 = 0 → (∀ (v33 : Int32), v33 = ((if x22 = 0 then 1012 else 1011) : Int32) → (cB (mx_i h29 b 2) 400 ∧ (∀ (h36 : mxH), p23 b v33 h29 h36 → Q (.inl (some (.int 1))) h36)))))))))))))))) ∧ (¬ x10 = 0 → (cB (mx_i h11 b 2) 400 ∧ (∀ (h61 : mxH), p23 b (1008 : Int32) h11 h61 → Q (.inl (some (.int 1))) h61))))))) ∧ (¬ x3 = 0 → (cB (mx_i h4 b 2) 400 ∧ (∀ (h66 : mxH), p23 b (1007 : Int32) h4 h66 → Q (.inl (some (.int 1))) h66))))))) : mx_wp (d + 3) 35 0 (mx_fr 35 [.ref 107, .ref 101, .ref b]) [] h Q := by
  show mx_wp (d + 3) 35 0 [some (.ref 107), some (.ref 101), some (.ref b), none] [] h Q
  refine wp_steps (i' := 2) (ls' := [some (.ref 107), some (.ref 101), some (.ref b), none]) (st' := [.ref 20, .ref 101]) (h' := h) (P := True) 2 rfl rfl trivial ?_
  obtain ⟨o1, o2, H⟩ := H
  refine wp_call (b := false) (y' := 96) (as := [.ref 101, .ref 20]) (rest := []) (P := ((mxT 101).1 = mxRc 96 ∧ mxG h)) rfl (by with_unfolding_all rfl) ⟨(congrArg Prod.fst sT_101), G⟩ (Nat.le_of_ble_eq_true rfl) (spm_96 G o1 o2 ?_)
  intro x3 h4 p5
  show mx_wp (d + 3) 35 3 [some (.ref 107), some (.ref 101), some (.ref b), none] [.int x3] h4 Q
  have H := H x3 h4 p5
  have G6 : mxG h4 := mxK_G (mvC_K p5.1) G
  refine wp_br (P := True) (c := x3 = 0) (t := 9) (st' := []) rfl rfl trivial (fun c7 => ?_) (fun c7 => ?_)
  · skip
    have H := H.1 c7
    refine wp_steps (i' := 11) (ls' := [some (.ref 107), some (.ref 101), some (.ref b), none]) (st' := [.ref 21, .ref 101]) (h' := h4) (P := True) 2 rfl rfl trivial ?_
    obtain ⟨o8, o9, H⟩ := H
    refine wp_call (b := false) (y' := 96) (as := [.ref 101, .ref 21]) (rest := []) (P := ((mxT 101).1 = mxRc 96 ∧ mxG h4)) rfl (by with_unfolding_all rfl) ⟨(congrArg Prod.fst sT_101), G6⟩ (Nat.le_of_ble_eq_true rfl) (spm_96 G6 o8 o9 ?_)
    intro x10 h11 p12
    show mx_wp (d + 3) 35 12 [some (.ref 107), some (.ref 101), some (.ref b), none] [.int x10] h11 Q
    have H := H x10 h11 p12
    have G13 : mxG h11 := mxK_G (mvC_K p12.1) G6
    refine wp_br (P := True) (c := x10 = 0) (t := 18) (st' := []) rfl rfl trivial (fun c14 => ?_) (fun c14 => ?_)
    · skip
      have H := H.1 c14
      refine wp_steps (i' := 20) (ls' := [some (.ref 107), some (.ref 101), some (.ref b), none]) (st' := [.ref b, .ref 101]) (h' := h11) (P := True) 2 rfl rfl trivial ?_
      obtain ⟨o15, H⟩ := H
      refine wp_call (b := false) (y' := 36) (as := [.ref 101, .ref b]) (rest := []) (P := True) rfl (by with_unfolding_all rfl) trivial (Nat.le_of_ble_eq_true rfl) (sp_36 G13 hVb o15 ?_)
      intro x16 h17 p18
      show mx_wp (d + 3) 35 21 [some (.ref 107), some (.ref 101), some (.ref b), none] [.int x16] h17 Q
      have H := H x16 h17 p18
      have G19 : mxG h17 := mxU_G p18.1.1 G13
      refine wp_br (P := True) (c := ¬ x16 = 0) (t := 24) (st' := []) rfl rfl trivial (fun c20 => ?_) (fun c20 => ?_)
      · skip
        have H := H.2 c20
        refine wp_steps (i' := 26) (ls' := [some (.ref 107), some (.ref 101), some (.ref b), none]) (st' := [.int 60, .ref 101]) (h' := h17) (P := True) 2 rfl rfl trivial ?_
        obtain ⟨o21, H⟩ := H
        refine wp_call (b := false) (y' := 98) (as := [.ref 101, .int 60]) (rest := []) (P := ((mxT 101).1 = mxRc 98 ∧ mxG h17)) rfl (by with_unfolding_all rfl) ⟨(congrArg Prod.fst sT_101), G19⟩ (Nat.le_of_ble_eq_true rfl) (spm_98 G19 o21 ?_)
        intro x22 h23 p24
        show mx_wp (d + 3) 35 27 [some (.ref 107), some (.ref 101), some (.ref b), none] [.int x22] h23 Q
        have H := H x22 h23 p24
        have G25 : mxG h23 := mxK_G (mvC_K p24.1) G19
        refine wp_steps (i' := 29) (ls' := [some (.ref 107), some (.ref 101), some (.ref b), some (.int x22)]) (st' := [.int x22]) (h' := h23) (P := True) 2 rfl rfl trivial ?_
        refine wp_br (P := True) (c := ¬ x22 = 0) (t := 34) (st' := []) rfl rfl trivial (fun c26 => ?_) (fun c26 => ?_)
        · skip
          have H := H.2 c26
          refine wp_steps (i' := 36) (ls' := [some (.ref 107), some (.ref 101), some (.ref b), some (.int x22)]) (st' := [.ref b, .ref 101]) (h' := h23) (P := True) 2 rfl rfl trivial ?_
          obtain ⟨o27, H⟩ := H
          refine wp_call (b := false) (y' := 36) (as := [.ref 101, .ref b]) (rest := []) (P := True) rfl (by with_unfolding_all rfl) trivial (Nat.le_of_ble_eq_true rfl) (sp_36 G25 hVb o27 ?_)
          intro x28 h29 p30
          show mx_wp (d + 3) 35 37 [some (.ref 107), some (.ref 101), some (.ref b), some (.int x22)] [.int x28] h29 Q
          have H := H x28 h29 p30
          have G31 : mxG h29 := mxU_G p30.1.1 G25
          refine wp_br (P := True) (c := ¬ x28 = 0) (t := 40) (st' := []) rfl rfl trivial (fun c32 => ?_) (fun c32 => ?_)
          · skip
            have H := H.2 c32
            refine wp_steps (i' := 42) (ls' := [some (.ref 107), some (.ref 101), some (.ref b), some (.int x22)]) (st' := [.int x22, .ref b]) (h' := h29) (P := True) 2 rfl rfl trivial ?_
            have J : ∀ (v33 : Int32) (ev33 : v33 = ((if x22 = 0 then 1012 else 1011) : Int32)), mx_wp (d + 3) 35 46 [some (.ref 107), some (.ref 101), some (.ref b), some (.int x22)] [.int v33, .ref b] h29 Q := by
              intro v33 ev33
              have H := H v33 ev33
              obtain ⟨o34, H⟩ := H
              refine wp_call (b := false) (y' := 23) (as := [.ref b, .int v33]) (rest := []) (P := ((mxT b).1 = mxRc 23 ∧ mxG h29)) rfl (by with_unfolding_all rfl) ⟨(congrArg Prod.fst (sL_0 hVb)), G31⟩ (Nat.le_of_ble_eq_true rfl) (spm_23 G31 hVb o34 ?_)
              intro h36 p37
              show mx_wp (d + 3) 35 47 [some (.ref 107), some (.ref 101), some (.ref b), some (.int x22)] [] h36 Q
              have H := H h36 p37
              have G38 : mxG h36 := mxU_G p37.1 G31
              refine wp_steps (i' := 48) (ls' := [some (.ref 107), some (.ref 101), some (.ref b), some (.int x22)]) (st' := [.int 1]) (h' := h36) (P := True) 1 rfl rfl trivial ?_
              exact wp_end (o := .inl (some (.int 1))) (h' := h36) (P := ((1 : Int32) = 0 ∨ (1 : Int32) = 1)) rfl rfl (Or.inr rfl) H
            refine wp_br (P := True) (c := x22 = 0) (t := 45) (st' := [.ref b]) rfl rfl trivial (fun c39 => ?_) (fun c39 => ?_)
            · skip
              refine wp_steps (i' := 46) (ls' := [some (.ref 107), some (.ref 101), some (.ref b), some (.int x22)]) (st' := [.int 1012, .ref b]) (h' := h29) (P := True) 1 rfl rfl trivial ?_
              exact J _ (by rw [if_pos c39])
            · skip
              refine wp_steps (i' := 44) (ls' := [some (.ref 107), some (.ref 101), some (.ref b), some (.int x22)]) (st' := [.int 1011, .ref b]) (h' := h29) (P := True) 1 rfl rfl trivial ?_
              refine wp_J (j := 46) (st' := [.int 1011, .ref b]) rfl rfl ?_
              exact J _ (by rw [if_neg c39])
          · have c32 := Decidable.of_not_not c32
            have H := H.1 c32
            refine wp_steps (i' := 39) (ls' := [some (.ref 107), some (.ref 101), some (.ref b), some (.int x22)]) (st' := [.int 0]) (h' := h29) (P := True) 1 rfl rfl trivial ?_
            exact wp_end (o := .inl (some (.int 0))) (h' := h29) (P := ((0 : Int32) = 0 ∨ (0 : Int32) = 1)) rfl rfl (Or.inl rfl) H
        · have c26 := Decidable.of_not_not c26
          have H := H.1 c26
          refine wp_steps (i' := 32) (ls' := [some (.ref 107), some (.ref 101), some (.ref b), some (.int x22)]) (st' := [.int 62, .ref 101]) (h' := h23) (P := True) 2 rfl rfl trivial ?_
          obtain ⟨o40, H⟩ := H
          refine wp_call (b := false) (y' := 98) (as := [.ref 101, .int 62]) (rest := []) (P := ((mxT 101).1 = mxRc 98 ∧ mxG h23)) rfl (by with_unfolding_all rfl) ⟨(congrArg Prod.fst sT_101), G25⟩ (Nat.le_of_ble_eq_true rfl) (spm_98 G25 o40 ?_)
          intro x41 h42 p43
          show mx_wp (d + 3) 35 33 [some (.ref 107), some (.ref 101), some (.ref b), some (.int x22)] [.int x41] h42 Q
          have H := H x41 h42 p43
          have G44 : mxG h42 := mxK_G (mvC_K p43.1) G25
          refine wp_br (P := True) (c := x41 = 0) (t := 38) (st' := []) rfl rfl trivial (fun c45 => ?_) (fun c45 => ?_)
          · skip
            have H := H.1 c45
            refine wp_steps (i' := 39) (ls' := [some (.ref 107), some (.ref 101), some (.ref b), some (.int x22)]) (st' := [.int 0]) (h' := h42) (P := True) 1 rfl rfl trivial ?_
            exact wp_end (o := .inl (some (.int 0))) (h' := h42) (P := ((0 : Int32) = 0 ∨ (0 : Int32) = 1)) rfl rfl (Or.inl rfl) H
          · skip
            have H := H.2 c45
            refine wp_steps (i' := 36) (ls' := [some (.ref 107), some (.ref 101), some (.ref b), some (.int x22)]) (st' := [.ref b, .ref 101]) (h' := h42) (P := True) 2 rfl rfl trivial ?_
            obtain ⟨o46, H⟩ := H
            refine wp_call (b := false) (y' := 36) (as := [.ref 101, .ref b]) (rest := []) (P := True) rfl (by with_unfolding_all rfl) trivial (Nat.le_of_ble_eq_true rfl) (sp_36 G44 hVb o46 ?_)
            intro x47 h48 p49
            show mx_wp (d + 3) 35 37 [some (.ref 107), some (.ref 101), some (.ref b), some (.int x22)] [.int x47] h48 Q
            have H := H x47 h48 p49
            have G50 : mxG h48 := mxU_G p49.1.1 G44
            refine wp_br (P := True) (c := ¬ x47 = 0) (t := 40) (st' := []) rfl rfl trivial (fun c51 => ?_) (fun c51 => ?_)
            · skip
              have H := H.2 c51
              refine wp_steps (i' := 42) (ls' := [some (.ref 107), some (.ref 101), some (.ref b), some (.int x22)]) (st' := [.int x22, .ref b]) (h' := h48) (P := True) 2 rfl rfl trivial ?_
              have J : ∀ (v52 : Int32) (ev52 : v52 = ((if x22 = 0 then 1012 else 1011) : Int32)), mx_wp (d + 3) 35 46 [some (.ref 107), some (.ref 101), some (.ref b), some (.int x22)] [.int v52, .ref b] h48 Q := by
                intro v52 ev52
                have H := H v52 ev52
                obtain ⟨o53, H⟩ := H
                refine wp_call (b := false) (y' := 23) (as := [.ref b, .int v52]) (rest := []) (P := ((mxT b).1 = mxRc 23 ∧ mxG h48)) rfl (by with_unfolding_all rfl) ⟨(congrArg Prod.fst (sL_0 hVb)), G50⟩ (Nat.le_of_ble_eq_true rfl) (spm_23 G50 hVb o53 ?_)
                intro h55 p56
                show mx_wp (d + 3) 35 47 [some (.ref 107), some (.ref 101), some (.ref b), some (.int x22)] [] h55 Q
                have H := H h55 p56
                have G57 : mxG h55 := mxU_G p56.1 G50
                refine wp_steps (i' := 48) (ls' := [some (.ref 107), some (.ref 101), some (.ref b), some (.int x22)]) (st' := [.int 1]) (h' := h55) (P := True) 1 rfl rfl trivial ?_
                exact wp_end (o := .inl (some (.int 1))) (h' := h55) (P := ((1 : Int32) = 0 ∨ (1 : Int32) = 1)) rfl rfl (Or.inr rfl) H
              refine wp_br (P := True) (c := x22 = 0) (t := 45) (st' := [.ref b]) rfl rfl trivial (fun c58 => ?_) (fun c58 => ?_)
              · skip
                refine wp_steps (i' := 46) (ls' := [some (.ref 107), some (.ref 101), some (.ref b), some (.int x22)]) (st' := [.int 1012, .ref b]) (h' := h48) (P := True) 1 rfl rfl trivial ?_
                exact J _ (by rw [if_pos c58])
              · skip
                refine wp_steps (i' := 44) (ls' := [some (.ref 107), some (.ref 101), some (.ref b), some (.int x22)]) (st' := [.int 1011, .ref b]) (h' := h48) (P := True) 1 rfl rfl trivial ?_
                refine wp_J (j := 46) (st' := [.int 1011, .ref b]) rfl rfl ?_
                exact J _ (by rw [if_neg c58])
            · have c51 := Decidable.of_not_not c51
              have H := H.1 c51
              refine wp_steps (i' := 39) (ls' := [some (.ref 107), some (.ref 101), some (.ref b), some (.int x22)]) (st' := [.int 0]) (h' := h48) (P := True) 1 rfl rfl trivial ?_
              exact wp_end (o := .inl (some (.int 0))) (h' := h48) (P := ((0 : Int32) = 0 ∨ (0 : Int32) = 1)) rfl rfl (Or.inl rfl) H
      · have c20 := Decidable.of_not_not c20
        have H := H.1 c20
        refine wp_steps (i' := 23) (ls' := [some (.ref 107), some (.ref 101), some (.ref b), none]) (st' := [.int 0]) (h' := h17) (P := True) 1 rfl rfl trivial ?_
        exact wp_end (o := .inl (some (.int 0))) (h' := h17) (P := ((0 : Int32) = 0 ∨ (0 : Int32) = 1)) rfl rfl (Or.inl rfl) H
    · skip
      have H := H.2 c14
      refine wp_steps (i' := 15) (ls' := [some (.ref 107), some (.ref 101), some (.ref b), none]) (st' := [.int 1008, .ref b]) (h' := h11) (P := True) 2 rfl rfl trivial ?_
      obtain ⟨o59, H⟩ := H
      refine wp_call (b := false) (y' := 23) (as := [.ref b, .int 1008]) (rest := []) (P := ((mxT b).1 = mxRc 23 ∧ mxG h11)) rfl (by with_unfolding_all rfl) ⟨(congrArg Prod.fst (sL_0 hVb)), G13⟩ (Nat.le_of_ble_eq_true rfl) (spm_23 G13 hVb o59 ?_)
      intro h61 p62
      show mx_wp (d + 3) 35 16 [some (.ref 107), some (.ref 101), some (.ref b), none] [] h61 Q
      have H := H h61 p62
      have G63 : mxG h61 := mxU_G p62.1 G13
      refine wp_steps (i' := 17) (ls' := [some (.ref 107), some (.ref 101), some (.ref b), none]) (st' := [.int 1]) (h' := h61) (P := True) 1 rfl rfl trivial ?_
      exact wp_end (o := .inl (some (.int 1))) (h' := h61) (P := ((1 : Int32) = 0 ∨ (1 : Int32) = 1)) rfl rfl (Or.inr rfl) H
  · skip
    have H := H.2 c7
    refine wp_steps (i' := 6) (ls' := [some (.ref 107), some (.ref 101), some (.ref b), none]) (st' := [.int 1007, .ref b]) (h' := h4) (P := True) 2 rfl rfl trivial ?_
    obtain ⟨o64, H⟩ := H
    refine wp_call (b := false) (y' := 23) (as := [.ref b, .int 1007]) (rest := []) (P := ((mxT b).1 = mxRc 23 ∧ mxG h4)) rfl (by with_unfolding_all rfl) ⟨(congrArg Prod.fst (sL_0 hVb)), G6⟩ (Nat.le_of_ble_eq_true rfl) (spm_23 G6 hVb o64 ?_)
    intro h66 p67
    show mx_wp (d + 3) 35 7 [some (.ref 107), some (.ref 101), some (.ref b), none] [] h66 Q
    have H := H h66 p67
    have G68 : mxG h66 := mxU_G p67.1 G6
    refine wp_steps (i' := 8) (ls' := [some (.ref 107), some (.ref 101), some (.ref b), none]) (st' := [.int 1]) (h' := h66) (P := True) 1 rfl rfl trivial ?_
    exact wp_end (o := .inl (some (.int 1))) (h' := h66) (P := ((1 : Int32) = 0 ∨ (1 : Int32) = 1)) rfl rfl (Or.inr rfl) H
/-! 41: StoneBacks$LawText.closeBrackets(LStoneBacks$Tape;LStoneBacks$Law;)V -/
def H_41_2 (d : Nat) (h : mxH) (b : Nat) (i3 : Int32) (Q : mxO → mxH → Prop) : Prop := mx_wp d 41 2 [some (.ref 107), some (.ref 101), some (.ref b), some (.int i3)] [] h Q
set_option maxRecDepth 8000 in
theorem tr_41_0 {d : Nat} {h : mxH} {Q : mxO → mxH → Prop} {b : Nat} (G : mxG h) (hVb : (mxT b).1 = 3) (H : H_41_2 (d + 2) h b 0 Q) : mx_wp (d + 2) 41 0 (mx_fr 41 [.ref 107, .ref 101, .ref b]) [] h Q := by
  show mx_wp (d + 2) 41 0 [some (.ref 107), some (.ref 101), some (.ref b), none] [] h Q
  refine wp_steps (i' := 2) (ls' := [some (.ref 107), some (.ref 101), some (.ref b), some (.int 0)]) (st' := []) (h' := h) (P := True) 2 rfl rfl trivial ?_
  exact H 
set_option maxRecDepth 8000 in
theorem tr_41_2 {d : Nat} {h : mxH} {Q : mxO → mxH → Prop} {b : Nat} {i3 : Int32} (G : mxG h) (hVb : (mxT b).1 = 3) (H : ((i3 < 6 → ((0 < (mx_i h 107 3) → (okC h ∧ (∀ (x4 : Int32) (h5 : mxH), p98 (41 : Int32) h x4 h5 → ((x4 = 0 → Q (.inl none) h5) ∧ (¬ x4 = 0 → ((∃ a, atS h5 b a) ∧ (∀ (h11 : mxH), p40 b (1014 : Int32) h5 h11 → (∀ h14, h14 = mx_wi h11 107 1 ((mx_i h11 107 1) - 1) → (∀ h17, h17 = mx_wi h14 107 2 ((mx_i h14 107 2) - 1) → (∀ h20, h20 = mx_wi h17 107 3 ((mx_i h17 107 3) - 1) → ((∃ a, atS h20 b a) ∧ (∀ (h25 : mxH), p39 b h20 h25 → H_41_2 (d + 2) h25 b (i3 + 1) Q)))))))))))) ∧ (¬ 0 < (mx_i h 107 3) → Q (.inl none) h))) ∧ (¬ i3 < 6 → Q (.inl none) h))) : H_41_2 (d + 2) h b i3 Q := by
  show mx_wp (d + 2) 41 2 [some (.ref 107), some (.ref 101), some (.ref b), some (.int i3)] [] h Q
  refine wp_steps (i' := 4) (ls' := [some (.ref 107), some (.ref 101), some (.ref b), some (.int i3)]) (st' := [.int 6, .int i3]) (h' := h) (P := True) 2 rfl rfl trivial ?_
  refine wp_br (P := True) (c := 6 ≤ i3) (t := 39) (st' := []) rfl rfl trivial (fun c1 => ?_) (fun c1 => ?_)
  · have c1 := Int32.not_lt.mpr c1
    have H := H.2 c1
    exact wp_end (o := .inl none) (h' := h) (P := True) rfl rfl trivial H
  · have c1 := Int32.not_le.mp c1
    have H := H.1 c1
    refine wp_steps (i' := 7) (ls' := [some (.ref 107), some (.ref 101), some (.ref b), some (.int i3)]) (st' := [.int (mx_i h 107 3)]) (h' := h) (P := ((mxT 107).1 = 4 ∧ mxG h) ∧ True) 2 rfl rfl ⟨⟨(congrArg Prod.fst sT_107), G⟩, trivial⟩ ?_
    refine wp_br (P := True) (c := (mx_i h 107 3) ≤ 0) (t := 39) (st' := []) rfl rfl trivial (fun c2 => ?_) (fun c2 => ?_)
    · have c2 := Int32.not_lt.mpr c2
      have H := H.2 c2
      exact wp_end (o := .inl none) (h' := h) (P := True) rfl rfl trivial H
    · have c2 := Int32.not_le.mp c2
      have H := H.1 c2
      refine wp_steps (i' := 10) (ls' := [some (.ref 107), some (.ref 101), some (.ref b), some (.int i3)]) (st' := [.int 41, .ref 101]) (h' := h) (P := True) 2 rfl rfl trivial ?_
      obtain ⟨o3, H⟩ := H
      refine wp_call (b := false) (y' := 98) (as := [.ref 101, .int 41]) (rest := []) (P := ((mxT 101).1 = mxRc 98 ∧ mxG h)) rfl (by with_unfolding_all rfl) ⟨(congrArg Prod.fst sT_101), G⟩ (Nat.le_of_ble_eq_true rfl) (spm_98 G o3 ?_)
      intro x4 h5 p6
      show mx_wp (d + 2) 41 11 [some (.ref 107), some (.ref 101), some (.ref b), some (.int i3)] [.int x4] h5 Q
      have H := H x4 h5 p6
      have G7 : mxG h5 := mxK_G (mvC_K p6.1) G
      refine wp_br (P := True) (c := x4 = 0) (t := 39) (st' := []) rfl rfl trivial (fun c8 => ?_) (fun c8 => ?_)
      · skip
        have H := H.1 c8
        exact wp_end (o := .inl none) (h' := h5) (P := True) rfl rfl trivial H
      · skip
        have H := H.2 c8
        refine wp_steps (i' := 15) (ls' := [some (.ref 107), some (.ref 101), some (.ref b), some (.int i3)]) (st' := [.int 1014, .ref b, .ref 107]) (h' := h5) (P := True) 3 rfl rfl trivial ?_
        obtain ⟨o9, H⟩ := H
        refine wp_call (b := false) (y' := 40) (as := [.ref 107, .ref b, .int 1014]) (rest := []) (P := ((mxT 107).1 = mxRc 40 ∧ mxG h5)) rfl (by with_unfolding_all rfl) ⟨(congrArg Prod.fst sT_107), G7⟩ (Nat.le_of_ble_eq_true rfl) (spm_40 G7 hVb o9 ?_)
        intro h11 p12
        show mx_wp (d + 2) 41 16 [some (.ref 107), some (.ref 101), some (.ref b), some (.int i3)] [] h11 Q
        have H := H h11 p12
        have G13 : mxG h11 := mxU_G p12.1.1 G7
        refine wp_steps (i' := 22) (ls' := [some (.ref 107), some (.ref 101), some (.ref b), some (.int i3)]) (st' := []) (h' := mx_wi h11 107 1 ((mx_i h11 107 1) - 1)) (P := ((mxT 107).1 = 4 ∧ mxG h11) ∧ ((mxT 107).1 = 4 ∧ mxG h11) ∧ True) 6 rfl rfl ⟨⟨(congrArg Prod.fst sT_107), G13⟩, ⟨(congrArg Prod.fst sT_107), G13⟩, trivial⟩ ?_
        obtain ⟨h14, e15⟩ : ∃ z9, z9 = mx_wi h11 107 1 ((mx_i h11 107 1) - 1) := ⟨_, rfl⟩
        rw [← e15]
        have H := H h14 e15
        have G16 : mxG h14 := e15 ▸ mxG_wi G13
        refine wp_steps (i' := 28) (ls' := [some (.ref 107), some (.ref 101), some (.ref b), some (.int i3)]) (st' := []) (h' := mx_wi h14 107 2 ((mx_i h14 107 2) - 1)) (P := ((mxT 107).1 = 4 ∧ mxG h14) ∧ ((mxT 107).1 = 4 ∧ mxG h14) ∧ True) 6 rfl rfl ⟨⟨(congrArg Prod.fst sT_107), G16⟩, ⟨(congrArg Prod.fst sT_107), G16⟩, trivial⟩ ?_
        obtain ⟨h17, e18⟩ : ∃ z9, z9 = mx_wi h14 107 2 ((mx_i h14 107 2) - 1) := ⟨_, rfl⟩
        rw [← e18]
        have H := H h17 e18
        have G19 : mxG h17 := e18 ▸ mxG_wi G16
        refine wp_steps (i' := 34) (ls' := [some (.ref 107), some (.ref 101), some (.ref b), some (.int i3)]) (st' := []) (h' := mx_wi h17 107 3 ((mx_i h17 107 3) - 1)) (P := ((mxT 107).1 = 4 ∧ mxG h17) ∧ ((mxT 107).1 = 4 ∧ mxG h17) ∧ True) 6 rfl rfl ⟨⟨(congrArg Prod.fst sT_107), G19⟩, ⟨(congrArg Prod.fst sT_107), G19⟩, trivial⟩ ?_
        obtain ⟨h20, e21⟩ : ∃ z9, z9 = mx_wi h17 107 3 ((mx_i h17 107 3) - 1) := ⟨_, rfl⟩
        rw [← e21]
        have H := H h20 e21
        have G22 : mxG h20 := e21 ▸ mxG_wi G19
        refine wp_steps (i' := 36) (ls' := [some (.ref 107), some (.ref 101), some (.ref b), some (.int i3)]) (st' := [.ref b, .ref 107]) (h' := h20) (P := True) 2 rfl rfl trivial ?_
        obtain ⟨o23, H⟩ := H
        refine wp_call (b := false) (y' := 39) (as := [.ref 107, .ref b]) (rest := []) (P := ((mxT 107).1 = mxRc 39 ∧ mxG h20)) rfl (by with_unfolding_all rfl) ⟨(congrArg Prod.fst sT_107), G22⟩ (Nat.le_of_ble_eq_true rfl) (spm_39 G22 hVb o23 ?_)
        intro h25 p26
        show mx_wp (d + 2) 41 37 [some (.ref 107), some (.ref 101), some (.ref b), some (.int i3)] [] h25 Q
        have H := H h25 p26
        have G27 : mxG h25 := mxU_G p26.1.1 G22
        refine wp_steps (i' := 38) (ls' := [some (.ref 107), some (.ref 101), some (.ref b), some (.int (i3 + 1))]) (st' := []) (h' := h25) (P := True) 1 rfl rfl trivial ?_
        refine wp_J (j := 2) (st' := []) rfl rfl ?_
        exact H 
/-! 88: StoneBacks$Tape.cutIntoTokens()V -/
def H_88_10 (d : Nat) (h : mxH) (i1 : Int32) (i2 : Int32) (Q : mxO → mxH → Prop) : Prop := ∀ (w3 : Option Value), mx_wp d 88 10 [some (.ref 101), some (.int i1), some (.int i2), w3] [] h Q
def H_88_61 (d : Nat) (h : mxH) (i2 : Int32) (Q : mxO → mxH → Prop) : Prop := ∀ (w1 : Option Value) (w3 : Option Value), mx_wp d 88 61 [some (.ref 101), w1, some (.int i2), w3] [] h Q
set_option maxRecDepth 8000 in
theorem tr_88_0 {d : Nat} {h : mxH} {Q : mxO → mxH → Prop}  (G : mxG h)  (H : (∀ h1, h1 = mx_wi h 101 2 0 → (∀ h4, h4 = mx_wi h1 101 3 0 → H_88_10 (d + 6) h4 0 0 Q))) : mx_wp (d + 6) 88 0 (mx_fr 88 [.ref 101]) [] h Q := by
  show mx_wp (d + 6) 88 0 [some (.ref 101), none, none, none] [] h Q
  refine wp_steps (i' := 3) (ls' := [some (.ref 101), none, none, none]) (st' := []) (h' := mx_wi h 101 2 0) (P := ((mxT 101).1 = 8 ∧ mxG h) ∧ True) 3 rfl rfl ⟨⟨(congrArg Prod.fst sT_101), G⟩, trivial⟩ ?_
  obtain ⟨h1, e2⟩ : ∃ z9, z9 = mx_wi h 101 2 0 := ⟨_, rfl⟩
  rw [← e2]
  have H := H h1 e2
  have G3 : mxG h1 := e2 ▸ mxG_wi G
  refine wp_steps (i' := 6) (ls' := [some (.ref 101), none, none, none]) (st' := []) (h' := mx_wi h1 101 3 0) (P := ((mxT 101).1 = 8 ∧ mxG h1) ∧ True) 3 rfl rfl ⟨⟨(congrArg Prod.fst sT_101), G3⟩, trivial⟩ ?_
  obtain ⟨h4, e5⟩ : ∃ z9, z9 = mx_wi h1 101 3 0 := ⟨_, rfl⟩
  rw [← e5]
  have H := H h4 e5
  have G6 : mxG h4 := e5 ▸ mxG_wi G3
  refine wp_steps (i' := 10) (ls' := [some (.ref 101), some (.int 0), some (.int 0), none]) (st' := []) (h' := h4) (P := True) 4 rfl rfl trivial ?_
  exact H _
set_option maxRecDepth 8000 in
theorem tr_88_10 {d : Nat} {h : mxH} {Q : mxO → mxH → Prop}  {i1 : Int32} {i2 : Int32} (G : mxG h)  (H : ((i2 < (mx_i h 101 1) → (vp_in i2 400 ∧ ((0 < (mx_i h 101 2) → (((V_89 h (mx_i h 102 i2.toNatClampNeg)) = i1 → (((V_89 h (mx_i h 102 i2.toNatClampNeg)) = 2 → (vp_in ((mx_i h 101 2) - 1) 401 ∧ (∀ h24, h24 = mx_wi h 105 ((mx_i h 101 2) - 1).toNatClampNeg ((mx_i h 105 ((mx_i h 101 2) - 1).toNatClampNeg) + 1) → H_88_10 (d + 6) h24 (V_89 h (mx_i h 102 i2.toNatClampNeg)) (i2 + 1) Q))) ∧ (¬ (V_89 h (mx_i h 102 i2.toNatClampNeg)) = 2 → (((V_89 h (mx_i h 102 i2.toNatClampNeg)) = 3 → (vp_in ((mx_i h 101 2) - 1) 401 ∧ (∀ h35, h35 = mx_wi h 105 ((mx_i h 101 2) - 1).toNatClampNeg ((mx_i h 105 ((mx_i h 101 2) - 1).toNatClampNeg) + 1) → H_88_10 (d + 6) h35 (V_89 h (mx_i h 102 i2.toNatClampNeg)) (i2 + 1) Q))) ∧ (¬ (V_89 h (mx_i h 102 i2.toNatClampNeg)) = 3 → (((V_89 h (mx_i h 102 i2.toNatClampNeg)) = 0 → H_88_10 (d + 6) h (V_89 h (mx_i h 102 i2.toNatClampNeg)) (i2 + 1) Q) ∧ (¬ (V_89 h (mx_i h 102 i2.toNatClampNeg)) = 0 → (cB (mx_i h 101 2) 400 ∧ (∀ (h31 : mxH), p90 (V_89 h (mx_i h 102 i2.toNatClampNeg)) i2 h h31 → H_88_10 (d + 6) h31 (V_89 h (mx_i h 102 i2.toNatClampNeg)) (i2 + 1) Q))))))))) ∧ (¬ (V_89 h (mx_i h 102 i2.toNatClampNeg)) = i1 → (((V_89 h (mx_i h 102 i2.toNatClampNeg)) = 0 → H_88_10 (d + 6) h (V_89 h (mx_i h 102 i2.toNatClampNeg)) (i2 + 1) Q) ∧ (¬ (V_89 h (mx_i h 102 i2.toNatClampNeg)) = 0 → (cB (mx_i h 101 2) 400 ∧ (∀ (h19 : mxH), p90 (V_89 h (mx_i h 102 i2.toNatClampNeg)) i2 h h19 → H_88_10 (d + 6) h19 (V_89 h (mx_i h 102 i2.toNatClampNeg)) (i2 + 1) Q))))))) ∧ (¬ 0 < (mx_i h 101 2) → (((V_89 h (mx_i h 102 i2.toNatClampNeg)) = 0 → H_88_10 (d + 6) h (V_89 h (mx_i h 102 i2.toNatClampNeg)) (i2 + 1) Q) ∧ (¬ (V_89 h (mx_i h 102 i2.toNatClampNeg)) = 0 → (cB (mx_i h 101 2) 400 ∧ (∀ (h12 : mxH), p90 (V_89 h (mx_i h 102 i2.toNatClampNeg)) i2 h h12 → H_88_10 (d + 6) h12 (V_89 h (mx_i h 102 i2.toNatClampNeg)) (i2 + 1) Q)))))))) ∧ (¬ i2 < (mx_i h 101 1) → (cB (mx_i h 101 2) 400 ∧ (∀ (h4 : mxH), p90 (4 : Int32) (mx_i h 101 1) h h4 → H_88_61 (d + 6) h4 0 Q))))) : H_88_10 (d + 6) h i1 i2 Q := by
  intro w3
  show mx_wp (d + 6) 88 10 [some (.ref 101), some (.int i1), some (.int i2), w3] [] h Q
  refine wp_steps (i' := 13) (ls' := [some (.ref 101), some (.int i1), some (.int i2), w3]) (st' := [.int (mx_i h 101 1), .int i2]) (h' := h) (P := ((mxT 101).1 = 8 ∧ mxG h) ∧ True) 3 rfl rfl ⟨⟨(congrArg Prod.fst sT_101), G⟩, trivial⟩ ?_
  refine wp_br (P := True) (c := (mx_i h 101 1) ≤ i2) (t := 54) (st' := []) rfl rfl trivial (fun c1 => ?_) (fun c1 => ?_)
  · have c1 := Int32.not_lt.mpr c1
    have H := H.2 c1
    refine wp_steps (i' := 58) (ls' := [some (.ref 101), some (.int i1), some (.int i2), w3]) (st' := [.int (mx_i h 101 1), .int 4, .ref 101]) (h' := h) (P := ((mxT 101).1 = 8 ∧ mxG h) ∧ True) 4 rfl rfl ⟨⟨(congrArg Prod.fst sT_101), G⟩, trivial⟩ ?_
    obtain ⟨o2, H⟩ := H
    refine wp_call (b := false) (y' := 90) (as := [.ref 101, .int 4, .int (mx_i h 101 1)]) (rest := []) (P := ((mxT 101).1 = mxRc 90 ∧ mxG h)) rfl (by with_unfolding_all rfl) ⟨(congrArg Prod.fst sT_101), G⟩ (Nat.le_of_ble_eq_true rfl) (spm_90 G o2 ?_)
    intro h4 p5
    show mx_wp (d + 6) 88 59 [some (.ref 101), some (.int i1), some (.int i2), w3] [] h4 Q
    have H := H h4 p5
    have G6 : mxG h4 := mxU_G p5.1 G
    refine wp_steps (i' := 61) (ls' := [some (.ref 101), some (.int i1), some (.int 0), w3]) (st' := []) (h' := h4) (P := True) 2 rfl rfl trivial ?_
    exact H _ _
  · have c1 := Int32.not_le.mp c1
    have H := H.1 c1
    obtain ⟨o7, H⟩ := H
    refine wp_steps (i' := 18) (ls' := [some (.ref 101), some (.int i1), some (.int i2), w3]) (st' := [.int (mx_i h 102 i2.toNatClampNeg)]) (h' := h) (P := ((mxT 101).1 = 8 ∧ mxG h) ∧ (((mxT 102).1 = 51 ∧ mxG h) ∧ vp_in i2 (mxT 102).2) ∧ True) 4 rfl rfl ⟨⟨(congrArg Prod.fst sT_101), G⟩, (cA sT_102 G o7), trivial⟩ ?_
    refine wp_call (b := false) (y' := 89) (as := [.int (mx_i h 102 i2.toNatClampNeg)]) (rest := []) (P := True) rfl (by with_unfolding_all rfl) trivial (Nat.le_of_ble_eq_true rfl) (sp_89 G ?_)
    show mx_wp (d + 6) 88 19 [some (.ref 101), some (.int i1), some (.int i2), w3] [.int (V_89 h (mx_i h 102 i2.toNatClampNeg))] h Q
    refine wp_steps (i' := 22) (ls' := [some (.ref 101), some (.int i1), some (.int i2), some (.int (V_89 h (mx_i h 102 i2.toNatClampNeg)))]) (st' := [.int (mx_i h 101 2)]) (h' := h) (P := ((mxT 101).1 = 8 ∧ mxG h) ∧ True) 3 rfl rfl ⟨⟨(congrArg Prod.fst sT_101), G⟩, trivial⟩ ?_
    refine wp_br (P := True) (c := (mx_i h 101 2) ≤ 0) (t := 44) (st' := []) rfl rfl trivial (fun c8 => ?_) (fun c8 => ?_)
    · have c8 := Int32.not_lt.mpr c8
      have H := H.2 c8
      refine wp_steps (i' := 45) (ls' := [some (.ref 101), some (.int i1), some (.int i2), some (.int (V_89 h (mx_i h 102 i2.toNatClampNeg)))]) (st' := [.int (V_89 h (mx_i h 102 i2.toNatClampNeg))]) (h' := h) (P := True) 1 rfl rfl trivial ?_
      refine wp_br (P := True) (c := (V_89 h (mx_i h 102 i2.toNatClampNeg)) = 0) (t := 50) (st' := []) rfl rfl trivial (fun c9 => ?_) (fun c9 => ?_)
      · skip
        have H := H.1 c9
        refine wp_steps (i' := 53) (ls' := [some (.ref 101), some (.int (V_89 h (mx_i h 102 i2.toNatClampNeg))), some (.int (i2 + 1)), some (.int (V_89 h (mx_i h 102 i2.toNatClampNeg)))]) (st' := []) (h' := h) (P := True) 3 rfl rfl trivial ?_
        refine wp_J (j := 10) (st' := []) rfl rfl ?_
        exact H _
      · skip
        have H := H.2 c9
        refine wp_steps (i' := 49) (ls' := [some (.ref 101), some (.int i1), some (.int i2), some (.int (V_89 h (mx_i h 102 i2.toNatClampNeg)))]) (st' := [.int i2, .int (V_89 h (mx_i h 102 i2.toNatClampNeg)), .ref 101]) (h' := h) (P := True) 3 rfl rfl trivial ?_
        obtain ⟨o10, H⟩ := H
        refine wp_call (b := false) (y' := 90) (as := [.ref 101, .int (V_89 h (mx_i h 102 i2.toNatClampNeg)), .int i2]) (rest := []) (P := ((mxT 101).1 = mxRc 90 ∧ mxG h)) rfl (by with_unfolding_all rfl) ⟨(congrArg Prod.fst sT_101), G⟩ (Nat.le_of_ble_eq_true rfl) (spm_90 G o10 ?_)
        intro h12 p13
        show mx_wp (d + 6) 88 50 [some (.ref 101), some (.int i1), some (.int i2), some (.int (V_89 h (mx_i h 102 i2.toNatClampNeg)))] [] h12 Q
        have H := H h12 p13
        have G14 : mxG h12 := mxU_G p13.1 G
        refine wp_steps (i' := 53) (ls' := [some (.ref 101), some (.int (V_89 h (mx_i h 102 i2.toNatClampNeg))), some (.int (i2 + 1)), some (.int (V_89 h (mx_i h 102 i2.toNatClampNeg)))]) (st' := []) (h' := h12) (P := True) 3 rfl rfl trivial ?_
        refine wp_J (j := 10) (st' := []) rfl rfl ?_
        exact H _
    · have c8 := Int32.not_le.mp c8
      have H := H.1 c8
      refine wp_steps (i' := 25) (ls' := [some (.ref 101), some (.int i1), some (.int i2), some (.int (V_89 h (mx_i h 102 i2.toNatClampNeg)))]) (st' := [.int i1, .int (V_89 h (mx_i h 102 i2.toNatClampNeg))]) (h' := h) (P := True) 2 rfl rfl trivial ?_
      refine wp_br (P := True) (c := ¬ (V_89 h (mx_i h 102 i2.toNatClampNeg)) = i1) (t := 44) (st' := []) rfl rfl trivial (fun c15 => ?_) (fun c15 => ?_)
      · skip
        have H := H.2 c15
        refine wp_steps (i' := 45) (ls' := [some (.ref 101), some (.int i1), some (.int i2), some (.int (V_89 h (mx_i h 102 i2.toNatClampNeg)))]) (st' := [.int (V_89 h (mx_i h 102 i2.toNatClampNeg))]) (h' := h) (P := True) 1 rfl rfl trivial ?_
        refine wp_br (P := True) (c := (V_89 h (mx_i h 102 i2.toNatClampNeg)) = 0) (t := 50) (st' := []) rfl rfl trivial (fun c16 => ?_) (fun c16 => ?_)
        · skip
          have H := H.1 c16
          refine wp_steps (i' := 53) (ls' := [some (.ref 101), some (.int (V_89 h (mx_i h 102 i2.toNatClampNeg))), some (.int (i2 + 1)), some (.int (V_89 h (mx_i h 102 i2.toNatClampNeg)))]) (st' := []) (h' := h) (P := True) 3 rfl rfl trivial ?_
          refine wp_J (j := 10) (st' := []) rfl rfl ?_
          exact H _
        · skip
          have H := H.2 c16
          refine wp_steps (i' := 49) (ls' := [some (.ref 101), some (.int i1), some (.int i2), some (.int (V_89 h (mx_i h 102 i2.toNatClampNeg)))]) (st' := [.int i2, .int (V_89 h (mx_i h 102 i2.toNatClampNeg)), .ref 101]) (h' := h) (P := True) 3 rfl rfl trivial ?_
          obtain ⟨o17, H⟩ := H
          refine wp_call (b := false) (y' := 90) (as := [.ref 101, .int (V_89 h (mx_i h 102 i2.toNatClampNeg)), .int i2]) (rest := []) (P := ((mxT 101).1 = mxRc 90 ∧ mxG h)) rfl (by with_unfolding_all rfl) ⟨(congrArg Prod.fst sT_101), G⟩ (Nat.le_of_ble_eq_true rfl) (spm_90 G o17 ?_)
          intro h19 p20
          show mx_wp (d + 6) 88 50 [some (.ref 101), some (.int i1), some (.int i2), some (.int (V_89 h (mx_i h 102 i2.toNatClampNeg)))] [] h19 Q
          have H := H h19 p20
          have G21 : mxG h19 := mxU_G p20.1 G
          refine wp_steps (i' := 53) (ls' := [some (.ref 101), some (.int (V_89 h (mx_i h 102 i2.toNatClampNeg))), some (.int (i2 + 1)), some (.int (V_89 h (mx_i h 102 i2.toNatClampNeg)))]) (st' := []) (h' := h19) (P := True) 3 rfl rfl trivial ?_
          refine wp_J (j := 10) (st' := []) rfl rfl ?_
          exact H _
      · have c15 := Decidable.of_not_not c15
        have H := H.1 c15
        refine wp_steps (i' := 28) (ls' := [some (.ref 101), some (.int i1), some (.int i2), some (.int (V_89 h (mx_i h 102 i2.toNatClampNeg)))]) (st' := [.int 2, .int (V_89 h (mx_i h 102 i2.toNatClampNeg))]) (h' := h) (P := True) 2 rfl rfl trivial ?_
        refine wp_br (P := True) (c := (V_89 h (mx_i h 102 i2.toNatClampNeg)) = 2) (t := 32) (st' := []) rfl rfl trivial (fun c22 => ?_) (fun c22 => ?_)
        · skip
          have H := H.1 c22
          obtain ⟨o23, H⟩ := H
          refine wp_steps (i' := 43) (ls' := [some (.ref 101), some (.int i1), some (.int i2), some (.int (V_89 h (mx_i h 102 i2.toNatClampNeg)))]) (st' := []) (h' := mx_wi h 105 ((mx_i h 101 2) - 1).toNatClampNeg ((mx_i h 105 ((mx_i h 101 2) - 1).toNatClampNeg) + 1)) (P := ((mxT 101).1 = 8 ∧ mxG h) ∧ ((mxT 101).1 = 8 ∧ mxG h) ∧ (((mxT 105).1 = 50 ∧ mxG h) ∧ vp_in ((mx_i h 101 2) - 1) (mxT 105).2) ∧ (((mxT 105).1 = 50 ∧ mxG h) ∧ vp_in ((mx_i h 101 2) - 1) (mxT 105).2) ∧ True) 11 rfl rfl ⟨⟨(congrArg Prod.fst sT_101), G⟩, ⟨(congrArg Prod.fst sT_101), G⟩, (cA sT_105 G o23), (cA sT_105 G o23), trivial⟩ ?_
          obtain ⟨h24, e25⟩ : ∃ z9, z9 = mx_wi h 105 ((mx_i h 101 2) - 1).toNatClampNeg ((mx_i h 105 ((mx_i h 101 2) - 1).toNatClampNeg) + 1) := ⟨_, rfl⟩
          rw [← e25]
          have H := H h24 e25
          have G26 : mxG h24 := e25 ▸ mxG_wi G
          refine wp_J (j := 50) (st' := []) rfl rfl ?_
          refine wp_steps (i' := 53) (ls' := [some (.ref 101), some (.int (V_89 h (mx_i h 102 i2.toNatClampNeg))), some (.int (i2 + 1)), some (.int (V_89 h (mx_i h 102 i2.toNatClampNeg)))]) (st' := []) (h' := h24) (P := True) 3 rfl rfl trivial ?_
          refine wp_J (j := 10) (st' := []) rfl rfl ?_
          exact H _
        · skip
          have H := H.2 c22
          refine wp_steps (i' := 31) (ls' := [some (.ref 101), some (.int i1), some (.int i2), some (.int (V_89 h (mx_i h 102 i2.toNatClampNeg)))]) (st' := [.int 3, .int (V_89 h (mx_i h 102 i2.toNatClampNeg))]) (h' := h) (P := True) 2 rfl rfl trivial ?_
          refine wp_br (P := True) (c := ¬ (V_89 h (mx_i h 102 i2.toNatClampNeg)) = 3) (t := 44) (st' := []) rfl rfl trivial (fun c27 => ?_) (fun c27 => ?_)
          · skip
            have H := H.2 c27
            refine wp_steps (i' := 45) (ls' := [some (.ref 101), some (.int i1), some (.int i2), some (.int (V_89 h (mx_i h 102 i2.toNatClampNeg)))]) (st' := [.int (V_89 h (mx_i h 102 i2.toNatClampNeg))]) (h' := h) (P := True) 1 rfl rfl trivial ?_
            refine wp_br (P := True) (c := (V_89 h (mx_i h 102 i2.toNatClampNeg)) = 0) (t := 50) (st' := []) rfl rfl trivial (fun c28 => ?_) (fun c28 => ?_)
            · skip
              have H := H.1 c28
              refine wp_steps (i' := 53) (ls' := [some (.ref 101), some (.int (V_89 h (mx_i h 102 i2.toNatClampNeg))), some (.int (i2 + 1)), some (.int (V_89 h (mx_i h 102 i2.toNatClampNeg)))]) (st' := []) (h' := h) (P := True) 3 rfl rfl trivial ?_
              refine wp_J (j := 10) (st' := []) rfl rfl ?_
              exact H _
            · skip
              have H := H.2 c28
              refine wp_steps (i' := 49) (ls' := [some (.ref 101), some (.int i1), some (.int i2), some (.int (V_89 h (mx_i h 102 i2.toNatClampNeg)))]) (st' := [.int i2, .int (V_89 h (mx_i h 102 i2.toNatClampNeg)), .ref 101]) (h' := h) (P := True) 3 rfl rfl trivial ?_
              obtain ⟨o29, H⟩ := H
              refine wp_call (b := false) (y' := 90) (as := [.ref 101, .int (V_89 h (mx_i h 102 i2.toNatClampNeg)), .int i2]) (rest := []) (P := ((mxT 101).1 = mxRc 90 ∧ mxG h)) rfl (by with_unfolding_all rfl) ⟨(congrArg Prod.fst sT_101), G⟩ (Nat.le_of_ble_eq_true rfl) (spm_90 G o29 ?_)
              intro h31 p32
              show mx_wp (d + 6) 88 50 [some (.ref 101), some (.int i1), some (.int i2), some (.int (V_89 h (mx_i h 102 i2.toNatClampNeg)))] [] h31 Q
              have H := H h31 p32
              have G33 : mxG h31 := mxU_G p32.1 G
              refine wp_steps (i' := 53) (ls' := [some (.ref 101), some (.int (V_89 h (mx_i h 102 i2.toNatClampNeg))), some (.int (i2 + 1)), some (.int (V_89 h (mx_i h 102 i2.toNatClampNeg)))]) (st' := []) (h' := h31) (P := True) 3 rfl rfl trivial ?_
              refine wp_J (j := 10) (st' := []) rfl rfl ?_
              exact H _
          · have c27 := Decidable.of_not_not c27
            have H := H.1 c27
            obtain ⟨o34, H⟩ := H
            refine wp_steps (i' := 43) (ls' := [some (.ref 101), some (.int i1), some (.int i2), some (.int (V_89 h (mx_i h 102 i2.toNatClampNeg)))]) (st' := []) (h' := mx_wi h 105 ((mx_i h 101 2) - 1).toNatClampNeg ((mx_i h 105 ((mx_i h 101 2) - 1).toNatClampNeg) + 1)) (P := ((mxT 101).1 = 8 ∧ mxG h) ∧ ((mxT 101).1 = 8 ∧ mxG h) ∧ (((mxT 105).1 = 50 ∧ mxG h) ∧ vp_in ((mx_i h 101 2) - 1) (mxT 105).2) ∧ (((mxT 105).1 = 50 ∧ mxG h) ∧ vp_in ((mx_i h 101 2) - 1) (mxT 105).2) ∧ True) 11 rfl rfl ⟨⟨(congrArg Prod.fst sT_101), G⟩, ⟨(congrArg Prod.fst sT_101), G⟩, (cA sT_105 G o34), (cA sT_105 G o34), trivial⟩ ?_
            obtain ⟨h35, e36⟩ : ∃ z9, z9 = mx_wi h 105 ((mx_i h 101 2) - 1).toNatClampNeg ((mx_i h 105 ((mx_i h 101 2) - 1).toNatClampNeg) + 1) := ⟨_, rfl⟩
            rw [← e36]
            have H := H h35 e36
            have G37 : mxG h35 := e36 ▸ mxG_wi G
            refine wp_J (j := 50) (st' := []) rfl rfl ?_
            refine wp_steps (i' := 53) (ls' := [some (.ref 101), some (.int (V_89 h (mx_i h 102 i2.toNatClampNeg))), some (.int (i2 + 1)), some (.int (V_89 h (mx_i h 102 i2.toNatClampNeg)))]) (st' := []) (h' := h35) (P := True) 3 rfl rfl trivial ?_
            refine wp_J (j := 10) (st' := []) rfl rfl ?_
            exact H _
set_option maxRecDepth 8000 in
theorem tr_88_61 {d : Nat} {h : mxH} {Q : mxO → mxH → Prop}  {i2 : Int32} (G : mxG h)  (H : ((i2 < (mx_i h 101 2) → (vp_in i2 401 ∧ (((mx_i h 103 i2.toNatClampNeg) = 3 → (cB (mx_i h 104 i2.toNatClampNeg) 400 ∧ cB (mx_i h 105 i2.toNatClampNeg) 400 ∧ cB (mx_i h 101 1) 400 ∧ (∀ (x11 : Nat) (h12 : mxH), (h12 = h ∧ p91 (mx_i h 104 i2.toNatClampNeg) (mx_i h 105 i2.toNatClampNeg) h x11) → (((x11 = 0 ∨ (3 ≤ x11 ∧ x11 < 29)) ∧ vp_in i2 401) ∧ (∀ h16, h16 = mx_wr h12 106 i2.toNatClampNeg x11 → H_88_61 (d + 6) h16 (i2 + 1) Q))))) ∧ (¬ (mx_i h 103 i2.toNatClampNeg) = 3 → (((0 = 0 ∨ (3 ≤ 0 ∧ 0 < 29)) ∧ vp_in i2 401) ∧ (∀ h5, h5 = mx_wr h 106 i2.toNatClampNeg 0 → H_88_61 (d + 6) h5 (i2 + 1) Q)))))) ∧ (¬ i2 < (mx_i h 101 2) → Q (.inl none) h))) : H_88_61 (d + 6) h i2 Q := by
  intro w1 w3
  show mx_wp (d + 6) 88 61 [some (.ref 101), w1, some (.int i2), w3] [] h Q
  refine wp_steps (i' := 64) (ls' := [some (.ref 101), w1, some (.int i2), w3]) (st' := [.int (mx_i h 101 2), .int i2]) (h' := h) (P := ((mxT 101).1 = 8 ∧ mxG h) ∧ True) 3 rfl rfl ⟨⟨(congrArg Prod.fst sT_101), G⟩, trivial⟩ ?_
  refine wp_br (P := True) (c := (mx_i h 101 2) ≤ i2) (t := 89) (st' := []) rfl rfl trivial (fun c1 => ?_) (fun c1 => ?_)
  · have c1 := Int32.not_lt.mpr c1
    have H := H.2 c1
    exact wp_end (o := .inl none) (h' := h) (P := True) rfl rfl trivial H
  · have c1 := Int32.not_le.mp c1
    have H := H.1 c1
    obtain ⟨o2, H⟩ := H
    refine wp_steps (i' := 73) (ls' := [some (.ref 101), w1, some (.int i2), w3]) (st' := [.int 3, .int (mx_i h 103 i2.toNatClampNeg), .int i2, .ref 106]) (h' := h) (P := ((mxT 101).1 = 8 ∧ mxG h) ∧ ((mxT 101).1 = 8 ∧ mxG h) ∧ (((mxT 103).1 = 50 ∧ mxG h) ∧ vp_in i2 (mxT 103).2) ∧ True) 8 rfl rfl ⟨⟨(congrArg Prod.fst sT_101), G⟩, ⟨(congrArg Prod.fst sT_101), G⟩, (cA sT_103 G o2), trivial⟩ ?_
    refine wp_br (P := True) (c := ¬ (mx_i h 103 i2.toNatClampNeg) = 3) (t := 85) (st' := [.int i2, .ref 106]) rfl rfl trivial (fun c3 => ?_) (fun c3 => ?_)
    · skip
      have H := H.2 c3
      obtain ⟨o4, H⟩ := H
      refine wp_steps (i' := 87) (ls' := [some (.ref 101), w1, some (.int i2), w3]) (st' := []) (h' := mx_wr h 106 i2.toNatClampNeg 0) (P := ((((mxT 106).1 = 53 ∧ mxG h) ∧ (0 = 0 ∨ (3 ≤ 0 ∧ 0 < 29))) ∧ vp_in i2 (mxT 106).2) ∧ True) 2 rfl rfl ⟨(cS sT_106 G o4), trivial⟩ ?_
      obtain ⟨h5, e6⟩ : ∃ z9, z9 = mx_wr h 106 i2.toNatClampNeg 0 := ⟨_, rfl⟩
      rw [← e6]
      have H := H h5 e6
      have G7 : mxG h5 := e6 ▸ mxG_wr_52_0 G
      refine wp_steps (i' := 88) (ls' := [some (.ref 101), w1, some (.int (i2 + 1)), w3]) (st' := []) (h' := h5) (P := True) 1 rfl rfl trivial ?_
      refine wp_J (j := 61) (st' := []) rfl rfl ?_
      exact H _ _
    · have c3 := Decidable.of_not_not c3
      have H := H.1 c3
      refine wp_steps (i' := 83) (ls' := [some (.ref 101), w1, some (.int i2), w3]) (st' := [.int (mx_i h 105 i2.toNatClampNeg), .int (mx_i h 104 i2.toNatClampNeg), .ref 101, .int i2, .ref 106]) (h' := h) (P := ((mxT 101).1 = 8 ∧ mxG h) ∧ (((mxT 104).1 = 50 ∧ mxG h) ∧ vp_in i2 (mxT 104).2) ∧ ((mxT 101).1 = 8 ∧ mxG h) ∧ (((mxT 105).1 = 50 ∧ mxG h) ∧ vp_in i2 (mxT 105).2) ∧ True) 9 rfl rfl ⟨⟨(congrArg Prod.fst sT_101), G⟩, (cA sT_104 G o2), ⟨(congrArg Prod.fst sT_101), G⟩, (cA sT_105 G o2), trivial⟩ ?_
      obtain ⟨o8, o9, o10, H⟩ := H
      refine wp_call (b := false) (y' := 91) (as := [.ref 101, .int (mx_i h 104 i2.toNatClampNeg), .int (mx_i h 105 i2.toNatClampNeg)]) (rest := [.int i2, .ref 106]) (P := ((mxT 101).1 = mxRc 91 ∧ mxG h)) rfl (by with_unfolding_all rfl) ⟨(congrArg Prod.fst sT_101), G⟩ (Nat.le_of_ble_eq_true rfl) (sp_91 G o8 o9 o10 ?_)
      intro x11 h12 p13
      show mx_wp (d + 6) 88 84 [some (.ref 101), w1, some (.int i2), w3] [.ref x11, .int i2, .ref 106] h12 Q
      have H := H x11 h12 p13
      have G14 : mxG h12 := (p13.1.symm ▸ G)
      refine wp_J (j := 86) (st' := [.ref x11, .int i2, .ref 106]) rfl rfl ?_
      obtain ⟨o15, H⟩ := H
      refine wp_steps (i' := 87) (ls' := [some (.ref 101), w1, some (.int i2), w3]) (st' := []) (h' := mx_wr h12 106 i2.toNatClampNeg x11) (P := ((((mxT 106).1 = 53 ∧ mxG h12) ∧ (x11 = 0 ∨ (3 ≤ x11 ∧ x11 < 29))) ∧ vp_in i2 (mxT 106).2) ∧ True) 1 rfl rfl ⟨(cS sT_106 G14 o15), trivial⟩ ?_
      obtain ⟨h16, e17⟩ : ∃ z9, z9 = mx_wr h12 106 i2.toNatClampNeg x11 := ⟨_, rfl⟩
      rw [← e17]
      have H := H h16 e17
      have G18 : mxG h16 := e17 ▸ mxG_wr_52_0 G14
      refine wp_steps (i' := 88) (ls' := [some (.ref 101), w1, some (.int (i2 + 1)), w3]) (st' := []) (h' := h16) (P := True) 1 rfl rfl trivial ?_
      refine wp_J (j := 61) (st' := []) rfl rfl ?_
      exact H _ _
/-! 216: StoneBacksModel.after(Ljava/lang/String;II)I -/
set_option maxRecDepth 8000 in
theorem tr_216_0 {d : Nat} {h : mxH} {Q : mxO → mxH → Prop} {s1 : Nat} {i2 : Int32} {i3 : Int32} (G : mxG h)  (H : (((mx_i h 381 12) = (-1) → (okT h ∧ (30 ≤ s1 ∧ s1 < 82 ∧ s1 % 2 = 0) ∧ (∀ (x9 : Int32) (h10 : mxH), p212 s1 h x9 h10 → ((x9 = 0 → (∀ h19, h19 = W_213 h10 (mx_i h10 381 11) → (okT h19 ∧ (∀ (x24 : Int32) (h25 : mxH), p215 i2 i3 h19 x24 h25 → Q (.inl (some (.int x24))) h25)))) ∧ (¬ x9 = 0 → (okT h10 ∧ (∀ (x15 : Int32) (h16 : mxH), p215 i2 i3 h10 x15 h16 → Q (.inl (some (.int x15))) h16))))))) ∧ (¬ (mx_i h 381 12) = (-1) → (okT h ∧ (∀ (x3 : Int32) (h4 : mxH), p215 i2 i3 h x3 h4 → Q (.inl (some (.int x3))) h4))))) : mx_wp (d + 5) 216 0 (mx_fr 216 [.ref 381, .ref s1, .int i2, .int i3]) [] h Q := by
  show mx_wp (d + 5) 216 0 [some (.ref 381), some (.ref s1), some (.int i2), some (.int i3)] [] h Q
  refine wp_steps (i' := 3) (ls' := [some (.ref 381), some (.ref s1), some (.int i2), some (.int i3)]) (st' := [.int (-1), .int (mx_i h 381 12)]) (h' := h) (P := ((mxT 381).1 = 11 ∧ mxG h) ∧ True) 3 rfl rfl ⟨⟨(congrArg Prod.fst sT_381), G⟩, trivial⟩ ?_
  refine wp_br (P := True) (c := ¬ (mx_i h 381 12) = (-1)) (t := 12) (st' := []) rfl rfl trivial (fun c1 => ?_) (fun c1 => ?_)
  · skip
    have H := H.2 c1
    refine wp_steps (i' := 15) (ls' := [some (.ref 381), some (.ref s1), some (.int i2), some (.int i3)]) (st' := [.int i3, .int i2, .ref 381]) (h' := h) (P := True) 3 rfl rfl trivial ?_
    obtain ⟨o2, H⟩ := H
    refine wp_call (b := false) (y' := 215) (as := [.ref 381, .int i2, .int i3]) (rest := []) (P := ((mxT 381).1 = mxRc 215 ∧ mxG h)) rfl (by with_unfolding_all rfl) ⟨(congrArg Prod.fst sT_381), G⟩ (Nat.le_of_ble_eq_true rfl) (sp_215 G o2 ?_)
    intro x3 h4 p5
    show mx_wp (d + 5) 216 16 [some (.ref 381), some (.ref s1), some (.int i2), some (.int i3)] [.int x3] h4 Q
    have H := H x3 h4 p5
    have G6 : mxG h4 := mxK_G p5.1 G
    exact wp_end (o := .inl (some (.int x3))) (h' := h4) (P := True) rfl rfl trivial H
  · have c1 := Decidable.of_not_not c1
    have H := H.1 c1
    refine wp_steps (i' := 6) (ls' := [some (.ref 381), some (.ref s1), some (.int i2), some (.int i3)]) (st' := [.ref s1, .ref 381]) (h' := h) (P := True) 2 rfl rfl trivial ?_
    obtain ⟨o7, o8, H⟩ := H
    refine wp_call (b := false) (y' := 212) (as := [.ref 381, .ref s1]) (rest := []) (P := ((mxT 381).1 = mxRc 212 ∧ mxG h)) rfl (by with_unfolding_all rfl) ⟨(congrArg Prod.fst sT_381), G⟩ (Nat.le_of_ble_eq_true rfl) (sp_212 G o7 o8 ?_)
    intro x9 h10 p11
    show mx_wp (d + 5) 216 7 [some (.ref 381), some (.ref s1), some (.int i2), some (.int i3)] [.int x9] h10 Q
    have H := H x9 h10 p11
    have G12 : mxG h10 := mxK_G p11.1 G
    refine wp_br (P := True) (c := ¬ x9 = 0) (t := 12) (st' := []) rfl rfl trivial (fun c13 => ?_) (fun c13 => ?_)
    · skip
      have H := H.2 c13
      refine wp_steps (i' := 15) (ls' := [some (.ref 381), some (.ref s1), some (.int i2), some (.int i3)]) (st' := [.int i3, .int i2, .ref 381]) (h' := h10) (P := True) 3 rfl rfl trivial ?_
      obtain ⟨o14, H⟩ := H
      refine wp_call (b := false) (y' := 215) (as := [.ref 381, .int i2, .int i3]) (rest := []) (P := ((mxT 381).1 = mxRc 215 ∧ mxG h10)) rfl (by with_unfolding_all rfl) ⟨(congrArg Prod.fst sT_381), G12⟩ (Nat.le_of_ble_eq_true rfl) (sp_215 G12 o14 ?_)
      intro x15 h16 p17
      show mx_wp (d + 5) 216 16 [some (.ref 381), some (.ref s1), some (.int i2), some (.int i3)] [.int x15] h16 Q
      have H := H x15 h16 p17
      have G18 : mxG h16 := mxK_G p17.1 G12
      exact wp_end (o := .inl (some (.int x15))) (h' := h16) (P := True) rfl rfl trivial H
    · have c13 := Decidable.of_not_not c13
      have H := H.1 c13
      refine wp_steps (i' := 11) (ls' := [some (.ref 381), some (.ref s1), some (.int i2), some (.int i3)]) (st' := [.int (mx_i h10 381 11), .ref 381]) (h' := h10) (P := ((mxT 381).1 = 11 ∧ mxG h10) ∧ True) 3 rfl rfl ⟨⟨(congrArg Prod.fst sT_381), G12⟩, trivial⟩ ?_
      refine wp_call (b := false) (y' := 213) (as := [.ref 381, .int (mx_i h10 381 11)]) (rest := []) (P := ((mxT 381).1 = mxRc 213 ∧ mxG h10)) rfl (by with_unfolding_all rfl) ⟨(congrArg Prod.fst sT_381), G12⟩ (Nat.le_of_ble_eq_true rfl) (sp_213 G12 ?_)
      show mx_wp (d + 5) 216 12 [some (.ref 381), some (.ref s1), some (.int i2), some (.int i3)] [] (W_213 h10 (mx_i h10 381 11)) Q
      obtain ⟨h19, e20⟩ : ∃ z9, z9 = W_213 h10 (mx_i h10 381 11) := ⟨_, rfl⟩
      rw [← e20]
      have H := H h19 e20
      have K22 : mxK h10 h19 := e20 ▸ KW_213
      have G21 : mxG h19 := mxK_G K22 G12
      refine wp_steps (i' := 15) (ls' := [some (.ref 381), some (.ref s1), some (.int i2), some (.int i3)]) (st' := [.int i3, .int i2, .ref 381]) (h' := h19) (P := True) 3 rfl rfl trivial ?_
      obtain ⟨o23, H⟩ := H
      refine wp_call (b := false) (y' := 215) (as := [.ref 381, .int i2, .int i3]) (rest := []) (P := ((mxT 381).1 = mxRc 215 ∧ mxG h19)) rfl (by with_unfolding_all rfl) ⟨(congrArg Prod.fst sT_381), G21⟩ (Nat.le_of_ble_eq_true rfl) (sp_215 G21 o23 ?_)
      intro x24 h25 p26
      show mx_wp (d + 5) 216 16 [some (.ref 381), some (.ref s1), some (.int i2), some (.int i3)] [.int x24] h25 Q
      have H := H x24 h25 p26
      have G27 : mxG h25 := mxK_G p26.1 G21
      exact wp_end (o := .inl (some (.int x24))) (h' := h25) (P := True) rfl rfl trivial H
/-! 218: StoneBacksModel.otherAfter(Ljava/lang/String;I)I -/
set_option maxRecDepth 8000 in
theorem tr_218_0 {d : Nat} {h : mxH} {Q : mxO → mxH → Prop} {s1 : Nat} {i2 : Int32} (G : mxG h)  (H : (((mx_i h 381 12) = (-1) → (okT h ∧ (30 ≤ s1 ∧ s1 < 82 ∧ s1 % 2 = 0) ∧ (∀ (x20 : Int32) (h21 : mxH), p212 s1 h x20 h21 → ((x20 = 0 → (∀ h41, h41 = W_213 h21 (mx_i h21 381 11) → (okT h41 ∧ (∀ (x46 : Int32) (h47 : mxH), p214 h41 x46 h47 → (okT h47 ∧ (∀ (x51 : Int32) (h52 : mxH), p215 (0 : Int32) ((mx_i h47 382 3) - 1) h47 x51 h52 → (((mx_i h52 381 12) = (-1) → ((x51 = i2 → (∀ h57, h57 = W_213 h52 x46 → Q (.inl (some (.int x51))) h57)) ∧ (¬ x51 = i2 → Q (.inl (some (.int x51))) h52))) ∧ (¬ (mx_i h52 381 12) = (-1) → Q (.inl (some (.int x51))) h52)))))))) ∧ (¬ x20 = 0 → (okT h21 ∧ (∀ (x26 : Int32) (h27 : mxH), p214 h21 x26 h27 → (okT h27 ∧ (∀ (x31 : Int32) (h32 : mxH), p215 (0 : Int32) ((mx_i h27 382 3) - 1) h27 x31 h32 → (((mx_i h32 381 12) = (-1) → ((x31 = i2 → (∀ h37, h37 = W_213 h32 x26 → Q (.inl (some (.int x31))) h37)) ∧ (¬ x31 = i2 → Q (.inl (some (.int x31))) h32))) ∧ (¬ (mx_i h32 381 12) = (-1) → Q (.inl (some (.int x31))) h32))))))))))) ∧ (¬ (mx_i h 381 12) = (-1) → (okT h ∧ (∀ (x3 : Int32) (h4 : mxH), p214 h x3 h4 → (okT h4 ∧ (∀ (x8 : Int32) (h9 : mxH), p215 (0 : Int32) ((mx_i h4 382 3) - 1) h4 x8 h9 → (((mx_i h9 381 12) = (-1) → ((x8 = i2 → (∀ h14, h14 = W_213 h9 x3 → Q (.inl (some (.int x8))) h14)) ∧ (¬ x8 = i2 → Q (.inl (some (.int x8))) h9))) ∧ (¬ (mx_i h9 381 12) = (-1) → Q (.inl (some (.int x8))) h9))))))))) : mx_wp (d + 5) 218 0 (mx_fr 218 [.ref 381, .ref s1, .int i2]) [] h Q := by
  show mx_wp (d + 5) 218 0 [some (.ref 381), some (.ref s1), some (.int i2), none, none] [] h Q
  refine wp_steps (i' := 3) (ls' := [some (.ref 381), some (.ref s1), some (.int i2), none, none]) (st' := [.int (-1), .int (mx_i h 381 12)]) (h' := h) (P := ((mxT 381).1 = 11 ∧ mxG h) ∧ True) 3 rfl rfl ⟨⟨(congrArg Prod.fst sT_381), G⟩, trivial⟩ ?_
  refine wp_br (P := True) (c := ¬ (mx_i h 381 12) = (-1)) (t := 12) (st' := []) rfl rfl trivial (fun c1 => ?_) (fun c1 => ?_)
  · skip
    have H := H.2 c1
    refine wp_steps (i' := 13) (ls' := [some (.ref 381), some (.ref s1), some (.int i2), none, none]) (st' := [.ref 381]) (h' := h) (P := True) 1 rfl rfl trivial ?_
    obtain ⟨o2, H⟩ := H
    refine wp_call (b := false) (y' := 214) (as := [.ref 381]) (rest := []) (P := ((mxT 381).1 = mxRc 214 ∧ mxG h)) rfl (by with_unfolding_all rfl) ⟨(congrArg Prod.fst sT_381), G⟩ (Nat.le_of_ble_eq_true rfl) (sp_214 G o2 ?_)
    intro x3 h4 p5
    show mx_wp (d + 5) 218 14 [some (.ref 381), some (.ref s1), some (.int i2), none, none] [.int x3] h4 Q
    have H := H x3 h4 p5
    have G6 : mxG h4 := mxK_G p5.1 G
    refine wp_steps (i' := 23) (ls' := [some (.ref 381), some (.ref s1), some (.int i2), some (.int x3), none]) (st' := [.int ((mx_i h4 382 3) - 1), .int 0, .ref 381]) (h' := h4) (P := ((mxT 381).1 = 11 ∧ mxG h4) ∧ (((mxT 382).1 = 50 ∧ mxG h4) ∧ vp_in 3 (mxT 382).2) ∧ True) 9 rfl rfl ⟨⟨(congrArg Prod.fst sT_381), G6⟩, (cA sT_382 G6 (vpl rfl)), trivial⟩ ?_
    obtain ⟨o7, H⟩ := H
    refine wp_call (b := false) (y' := 215) (as := [.ref 381, .int 0, .int ((mx_i h4 382 3) - 1)]) (rest := []) (P := ((mxT 381).1 = mxRc 215 ∧ mxG h4)) rfl (by with_unfolding_all rfl) ⟨(congrArg Prod.fst sT_381), G6⟩ (Nat.le_of_ble_eq_true rfl) (sp_215 G6 o7 ?_)
    intro x8 h9 p10
    show mx_wp (d + 5) 218 24 [some (.ref 381), some (.ref s1), some (.int i2), some (.int x3), none] [.int x8] h9 Q
    have H := H x8 h9 p10
    have G11 : mxG h9 := mxK_G p10.1 G6
    refine wp_steps (i' := 28) (ls' := [some (.ref 381), some (.ref s1), some (.int i2), some (.int x3), some (.int x8)]) (st' := [.int (-1), .int (mx_i h9 381 12)]) (h' := h9) (P := ((mxT 381).1 = 11 ∧ mxG h9) ∧ True) 4 rfl rfl ⟨⟨(congrArg Prod.fst sT_381), G11⟩, trivial⟩ ?_
    refine wp_br (P := True) (c := ¬ (mx_i h9 381 12) = (-1)) (t := 35) (st' := []) rfl rfl trivial (fun c12 => ?_) (fun c12 => ?_)
    · skip
      have H := H.2 c12
      refine wp_steps (i' := 36) (ls' := [some (.ref 381), some (.ref s1), some (.int i2), some (.int x3), some (.int x8)]) (st' := [.int x8]) (h' := h9) (P := True) 1 rfl rfl trivial ?_
      exact wp_end (o := .inl (some (.int x8))) (h' := h9) (P := True) rfl rfl trivial H
    · have c12 := Decidable.of_not_not c12
      have H := H.1 c12
      refine wp_steps (i' := 31) (ls' := [some (.ref 381), some (.ref s1), some (.int i2), some (.int x3), some (.int x8)]) (st' := [.int i2, .int x8]) (h' := h9) (P := True) 2 rfl rfl trivial ?_
      refine wp_br (P := True) (c := ¬ x8 = i2) (t := 35) (st' := []) rfl rfl trivial (fun c13 => ?_) (fun c13 => ?_)
      · skip
        have H := H.2 c13
        refine wp_steps (i' := 36) (ls' := [some (.ref 381), some (.ref s1), some (.int i2), some (.int x3), some (.int x8)]) (st' := [.int x8]) (h' := h9) (P := True) 1 rfl rfl trivial ?_
        exact wp_end (o := .inl (some (.int x8))) (h' := h9) (P := True) rfl rfl trivial H
      · have c13 := Decidable.of_not_not c13
        have H := H.1 c13
        refine wp_steps (i' := 34) (ls' := [some (.ref 381), some (.ref s1), some (.int i2), some (.int x3), some (.int x8)]) (st' := [.int x3, .ref 381]) (h' := h9) (P := True) 2 rfl rfl trivial ?_
        refine wp_call (b := false) (y' := 213) (as := [.ref 381, .int x3]) (rest := []) (P := ((mxT 381).1 = mxRc 213 ∧ mxG h9)) rfl (by with_unfolding_all rfl) ⟨(congrArg Prod.fst sT_381), G11⟩ (Nat.le_of_ble_eq_true rfl) (sp_213 G11 ?_)
        show mx_wp (d + 5) 218 35 [some (.ref 381), some (.ref s1), some (.int i2), some (.int x3), some (.int x8)] [] (W_213 h9 x3) Q
        obtain ⟨h14, e15⟩ : ∃ z9, z9 = W_213 h9 x3 := ⟨_, rfl⟩
        rw [← e15]
        have H := H h14 e15
        have K17 : mxK h9 h14 := e15 ▸ KW_213
        have G16 : mxG h14 := mxK_G K17 G11
        refine wp_steps (i' := 36) (ls' := [some (.ref 381), some (.ref s1), some (.int i2), some (.int x3), some (.int x8)]) (st' := [.int x8]) (h' := h14) (P := True) 1 rfl rfl trivial ?_
        exact wp_end (o := .inl (some (.int x8))) (h' := h14) (P := True) rfl rfl trivial H
  · have c1 := Decidable.of_not_not c1
    have H := H.1 c1
    refine wp_steps (i' := 6) (ls' := [some (.ref 381), some (.ref s1), some (.int i2), none, none]) (st' := [.ref s1, .ref 381]) (h' := h) (P := True) 2 rfl rfl trivial ?_
    obtain ⟨o18, o19, H⟩ := H
    refine wp_call (b := false) (y' := 212) (as := [.ref 381, .ref s1]) (rest := []) (P := ((mxT 381).1 = mxRc 212 ∧ mxG h)) rfl (by with_unfolding_all rfl) ⟨(congrArg Prod.fst sT_381), G⟩ (Nat.le_of_ble_eq_true rfl) (sp_212 G o18 o19 ?_)
    intro x20 h21 p22
    show mx_wp (d + 5) 218 7 [some (.ref 381), some (.ref s1), some (.int i2), none, none] [.int x20] h21 Q
    have H := H x20 h21 p22
    have G23 : mxG h21 := mxK_G p22.1 G
    refine wp_br (P := True) (c := ¬ x20 = 0) (t := 12) (st' := []) rfl rfl trivial (fun c24 => ?_) (fun c24 => ?_)
    · skip
      have H := H.2 c24
      refine wp_steps (i' := 13) (ls' := [some (.ref 381), some (.ref s1), some (.int i2), none, none]) (st' := [.ref 381]) (h' := h21) (P := True) 1 rfl rfl trivial ?_
      obtain ⟨o25, H⟩ := H
      refine wp_call (b := false) (y' := 214) (as := [.ref 381]) (rest := []) (P := ((mxT 381).1 = mxRc 214 ∧ mxG h21)) rfl (by with_unfolding_all rfl) ⟨(congrArg Prod.fst sT_381), G23⟩ (Nat.le_of_ble_eq_true rfl) (sp_214 G23 o25 ?_)
      intro x26 h27 p28
      show mx_wp (d + 5) 218 14 [some (.ref 381), some (.ref s1), some (.int i2), none, none] [.int x26] h27 Q
      have H := H x26 h27 p28
      have G29 : mxG h27 := mxK_G p28.1 G23
      refine wp_steps (i' := 23) (ls' := [some (.ref 381), some (.ref s1), some (.int i2), some (.int x26), none]) (st' := [.int ((mx_i h27 382 3) - 1), .int 0, .ref 381]) (h' := h27) (P := ((mxT 381).1 = 11 ∧ mxG h27) ∧ (((mxT 382).1 = 50 ∧ mxG h27) ∧ vp_in 3 (mxT 382).2) ∧ True) 9 rfl rfl ⟨⟨(congrArg Prod.fst sT_381), G29⟩, (cA sT_382 G29 (vpl rfl)), trivial⟩ ?_
      obtain ⟨o30, H⟩ := H
      refine wp_call (b := false) (y' := 215) (as := [.ref 381, .int 0, .int ((mx_i h27 382 3) - 1)]) (rest := []) (P := ((mxT 381).1 = mxRc 215 ∧ mxG h27)) rfl (by with_unfolding_all rfl) ⟨(congrArg Prod.fst sT_381), G29⟩ (Nat.le_of_ble_eq_true rfl) (sp_215 G29 o30 ?_)
      intro x31 h32 p33
      show mx_wp (d + 5) 218 24 [some (.ref 381), some (.ref s1), some (.int i2), some (.int x26), none] [.int x31] h32 Q
      have H := H x31 h32 p33
      have G34 : mxG h32 := mxK_G p33.1 G29
      refine wp_steps (i' := 28) (ls' := [some (.ref 381), some (.ref s1), some (.int i2), some (.int x26), some (.int x31)]) (st' := [.int (-1), .int (mx_i h32 381 12)]) (h' := h32) (P := ((mxT 381).1 = 11 ∧ mxG h32) ∧ True) 4 rfl rfl ⟨⟨(congrArg Prod.fst sT_381), G34⟩, trivial⟩ ?_
      refine wp_br (P := True) (c := ¬ (mx_i h32 381 12) = (-1)) (t := 35) (st' := []) rfl rfl trivial (fun c35 => ?_) (fun c35 => ?_)
      · skip
        have H := H.2 c35
        refine wp_steps (i' := 36) (ls' := [some (.ref 381), some (.ref s1), some (.int i2), some (.int x26), some (.int x31)]) (st' := [.int x31]) (h' := h32) (P := True) 1 rfl rfl trivial ?_
        exact wp_end (o := .inl (some (.int x31))) (h' := h32) (P := True) rfl rfl trivial H
      · have c35 := Decidable.of_not_not c35
        have H := H.1 c35
        refine wp_steps (i' := 31) (ls' := [some (.ref 381), some (.ref s1), some (.int i2), some (.int x26), some (.int x31)]) (st' := [.int i2, .int x31]) (h' := h32) (P := True) 2 rfl rfl trivial ?_
        refine wp_br (P := True) (c := ¬ x31 = i2) (t := 35) (st' := []) rfl rfl trivial (fun c36 => ?_) (fun c36 => ?_)
        · skip
          have H := H.2 c36
          refine wp_steps (i' := 36) (ls' := [some (.ref 381), some (.ref s1), some (.int i2), some (.int x26), some (.int x31)]) (st' := [.int x31]) (h' := h32) (P := True) 1 rfl rfl trivial ?_
          exact wp_end (o := .inl (some (.int x31))) (h' := h32) (P := True) rfl rfl trivial H
        · have c36 := Decidable.of_not_not c36
          have H := H.1 c36
          refine wp_steps (i' := 34) (ls' := [some (.ref 381), some (.ref s1), some (.int i2), some (.int x26), some (.int x31)]) (st' := [.int x26, .ref 381]) (h' := h32) (P := True) 2 rfl rfl trivial ?_
          refine wp_call (b := false) (y' := 213) (as := [.ref 381, .int x26]) (rest := []) (P := ((mxT 381).1 = mxRc 213 ∧ mxG h32)) rfl (by with_unfolding_all rfl) ⟨(congrArg Prod.fst sT_381), G34⟩ (Nat.le_of_ble_eq_true rfl) (sp_213 G34 ?_)
          show mx_wp (d + 5) 218 35 [some (.ref 381), some (.ref s1), some (.int i2), some (.int x26), some (.int x31)] [] (W_213 h32 x26) Q
          obtain ⟨h37, e38⟩ : ∃ z9, z9 = W_213 h32 x26 := ⟨_, rfl⟩
          rw [← e38]
          have H := H h37 e38
          have K40 : mxK h32 h37 := e38 ▸ KW_213
          have G39 : mxG h37 := mxK_G K40 G34
          refine wp_steps (i' := 36) (ls' := [some (.ref 381), some (.ref s1), some (.int i2), some (.int x26), some (.int x31)]) (st' := [.int x31]) (h' := h37) (P := True) 1 rfl rfl trivial ?_
          exact wp_end (o := .inl (some (.int x31))) (h' := h37) (P := True) rfl rfl trivial H
    · have c24 := Decidable.of_not_not c24
      have H := H.1 c24
      refine wp_steps (i' := 11) (ls' := [some (.ref 381), some (.ref s1), some (.int i2), none, none]) (st' := [.int (mx_i h21 381 11), .ref 381]) (h' := h21) (P := ((mxT 381).1 = 11 ∧ mxG h21) ∧ True) 3 rfl rfl ⟨⟨(congrArg Prod.fst sT_381), G23⟩, trivial⟩ ?_
      refine wp_call (b := false) (y' := 213) (as := [.ref 381, .int (mx_i h21 381 11)]) (rest := []) (P := ((mxT 381).1 = mxRc 213 ∧ mxG h21)) rfl (by with_unfolding_all rfl) ⟨(congrArg Prod.fst sT_381), G23⟩ (Nat.le_of_ble_eq_true rfl) (sp_213 G23 ?_)
      show mx_wp (d + 5) 218 12 [some (.ref 381), some (.ref s1), some (.int i2), none, none] [] (W_213 h21 (mx_i h21 381 11)) Q
      obtain ⟨h41, e42⟩ : ∃ z9, z9 = W_213 h21 (mx_i h21 381 11) := ⟨_, rfl⟩
      rw [← e42]
      have H := H h41 e42
      have K44 : mxK h21 h41 := e42 ▸ KW_213
      have G43 : mxG h41 := mxK_G K44 G23
      refine wp_steps (i' := 13) (ls' := [some (.ref 381), some (.ref s1), some (.int i2), none, none]) (st' := [.ref 381]) (h' := h41) (P := True) 1 rfl rfl trivial ?_
      obtain ⟨o45, H⟩ := H
      refine wp_call (b := false) (y' := 214) (as := [.ref 381]) (rest := []) (P := ((mxT 381).1 = mxRc 214 ∧ mxG h41)) rfl (by with_unfolding_all rfl) ⟨(congrArg Prod.fst sT_381), G43⟩ (Nat.le_of_ble_eq_true rfl) (sp_214 G43 o45 ?_)
      intro x46 h47 p48
      show mx_wp (d + 5) 218 14 [some (.ref 381), some (.ref s1), some (.int i2), none, none] [.int x46] h47 Q
      have H := H x46 h47 p48
      have G49 : mxG h47 := mxK_G p48.1 G43
      refine wp_steps (i' := 23) (ls' := [some (.ref 381), some (.ref s1), some (.int i2), some (.int x46), none]) (st' := [.int ((mx_i h47 382 3) - 1), .int 0, .ref 381]) (h' := h47) (P := ((mxT 381).1 = 11 ∧ mxG h47) ∧ (((mxT 382).1 = 50 ∧ mxG h47) ∧ vp_in 3 (mxT 382).2) ∧ True) 9 rfl rfl ⟨⟨(congrArg Prod.fst sT_381), G49⟩, (cA sT_382 G49 (vpl rfl)), trivial⟩ ?_
      obtain ⟨o50, H⟩ := H
      refine wp_call (b := false) (y' := 215) (as := [.ref 381, .int 0, .int ((mx_i h47 382 3) - 1)]) (rest := []) (P := ((mxT 381).1 = mxRc 215 ∧ mxG h47)) rfl (by with_unfolding_all rfl) ⟨(congrArg Prod.fst sT_381), G49⟩ (Nat.le_of_ble_eq_true rfl) (sp_215 G49 o50 ?_)
      intro x51 h52 p53
      show mx_wp (d + 5) 218 24 [some (.ref 381), some (.ref s1), some (.int i2), some (.int x46), none] [.int x51] h52 Q
      have H := H x51 h52 p53
      have G54 : mxG h52 := mxK_G p53.1 G49
      refine wp_steps (i' := 28) (ls' := [some (.ref 381), some (.ref s1), some (.int i2), some (.int x46), some (.int x51)]) (st' := [.int (-1), .int (mx_i h52 381 12)]) (h' := h52) (P := ((mxT 381).1 = 11 ∧ mxG h52) ∧ True) 4 rfl rfl ⟨⟨(congrArg Prod.fst sT_381), G54⟩, trivial⟩ ?_
      refine wp_br (P := True) (c := ¬ (mx_i h52 381 12) = (-1)) (t := 35) (st' := []) rfl rfl trivial (fun c55 => ?_) (fun c55 => ?_)
      · skip
        have H := H.2 c55
        refine wp_steps (i' := 36) (ls' := [some (.ref 381), some (.ref s1), some (.int i2), some (.int x46), some (.int x51)]) (st' := [.int x51]) (h' := h52) (P := True) 1 rfl rfl trivial ?_
        exact wp_end (o := .inl (some (.int x51))) (h' := h52) (P := True) rfl rfl trivial H
      · have c55 := Decidable.of_not_not c55
        have H := H.1 c55
        refine wp_steps (i' := 31) (ls' := [some (.ref 381), some (.ref s1), some (.int i2), some (.int x46), some (.int x51)]) (st' := [.int i2, .int x51]) (h' := h52) (P := True) 2 rfl rfl trivial ?_
        refine wp_br (P := True) (c := ¬ x51 = i2) (t := 35) (st' := []) rfl rfl trivial (fun c56 => ?_) (fun c56 => ?_)
        · skip
          have H := H.2 c56
          refine wp_steps (i' := 36) (ls' := [some (.ref 381), some (.ref s1), some (.int i2), some (.int x46), some (.int x51)]) (st' := [.int x51]) (h' := h52) (P := True) 1 rfl rfl trivial ?_
          exact wp_end (o := .inl (some (.int x51))) (h' := h52) (P := True) rfl rfl trivial H
        · have c56 := Decidable.of_not_not c56
          have H := H.1 c56
          refine wp_steps (i' := 34) (ls' := [some (.ref 381), some (.ref s1), some (.int i2), some (.int x46), some (.int x51)]) (st' := [.int x46, .ref 381]) (h' := h52) (P := True) 2 rfl rfl trivial ?_
          refine wp_call (b := false) (y' := 213) (as := [.ref 381, .int x46]) (rest := []) (P := ((mxT 381).1 = mxRc 213 ∧ mxG h52)) rfl (by with_unfolding_all rfl) ⟨(congrArg Prod.fst sT_381), G54⟩ (Nat.le_of_ble_eq_true rfl) (sp_213 G54 ?_)
          show mx_wp (d + 5) 218 35 [some (.ref 381), some (.ref s1), some (.int i2), some (.int x46), some (.int x51)] [] (W_213 h52 x46) Q
          obtain ⟨h57, e58⟩ : ∃ z9, z9 = W_213 h52 x46 := ⟨_, rfl⟩
          rw [← e58]
          have H := H h57 e58
          have K60 : mxK h52 h57 := e58 ▸ KW_213
          have G59 : mxG h57 := mxK_G K60 G54
          refine wp_steps (i' := 36) (ls' := [some (.ref 381), some (.ref s1), some (.int i2), some (.int x46), some (.int x51)]) (st' := [.int x51]) (h' := h57) (P := True) 1 rfl rfl trivial ?_
          exact wp_end (o := .inl (some (.int x51))) (h' := h57) (P := True) rfl rfl trivial H
/-! 222: StoneBacksModel.tells(III)V -/
set_option maxRecDepth 8000 in
theorem tr_222_0 {d : Nat} {h : mxH} {Q : mxO → mxH → Prop} {i1 : Int32} {i2 : Int32} {i3 : Int32} (G : mxG h)  (H : (okT h ∧ (∀ (x2 : Int32) (h3 : mxH), p215 i2 i3 h x2 h3 → (((mx_i h3 381 12) = (-1) → (vp_in i1 769 ∧ (∀ h8, h8 = mx_wi h3 382 i1.toNatClampNeg x2 → Q (.inl none) h8))) ∧ (¬ (mx_i h3 381 12) = (-1) → Q (.inl none) h3))))) : mx_wp (d + 4) 222 0 (mx_fr 222 [.ref 381, .int i1, .int i2, .int i3]) [] h Q := by
  show mx_wp (d + 4) 222 0 [some (.ref 381), some (.int i1), some (.int i2), some (.int i3), none] [] h Q
  refine wp_steps (i' := 3) (ls' := [some (.ref 381), some (.int i1), some (.int i2), some (.int i3), none]) (st' := [.int i3, .int i2, .ref 381]) (h' := h) (P := True) 3 rfl rfl trivial ?_
  obtain ⟨o1, H⟩ := H
  refine wp_call (b := false) (y' := 215) (as := [.ref 381, .int i2, .int i3]) (rest := []) (P := ((mxT 381).1 = mxRc 215 ∧ mxG h)) rfl (by with_unfolding_all rfl) ⟨(congrArg Prod.fst sT_381), G⟩ (Nat.le_of_ble_eq_true rfl) (sp_215 G o1 ?_)
  intro x2 h3 p4
  show mx_wp (d + 4) 222 4 [some (.ref 381), some (.int i1), some (.int i2), some (.int i3), none] [.int x2] h3 Q
  have H := H x2 h3 p4
  have G5 : mxG h3 := mxK_G p4.1 G
  refine wp_steps (i' := 8) (ls' := [some (.ref 381), some (.int i1), some (.int i2), some (.int i3), some (.int x2)]) (st' := [.int (-1), .int (mx_i h3 381 12)]) (h' := h3) (P := ((mxT 381).1 = 11 ∧ mxG h3) ∧ True) 4 rfl rfl ⟨⟨(congrArg Prod.fst sT_381), G5⟩, trivial⟩ ?_
  refine wp_br (P := True) (c := ¬ (mx_i h3 381 12) = (-1)) (t := 14) (st' := []) rfl rfl trivial (fun c6 => ?_) (fun c6 => ?_)
  · skip
    have H := H.2 c6
    exact wp_end (o := .inl none) (h' := h3) (P := True) rfl rfl trivial H
  · have c6 := Decidable.of_not_not c6
    have H := H.1 c6
    obtain ⟨o7, H⟩ := H
    refine wp_steps (i' := 14) (ls' := [some (.ref 381), some (.int i1), some (.int i2), some (.int i3), some (.int x2)]) (st' := []) (h' := mx_wi h3 382 i1.toNatClampNeg x2) (P := ((mxT 381).1 = 11 ∧ mxG h3) ∧ (((mxT 382).1 = 50 ∧ mxG h3) ∧ vp_in i1 (mxT 382).2) ∧ True) 5 rfl rfl ⟨⟨(congrArg Prod.fst sT_381), G5⟩, (cA sT_382 G5 o7), trivial⟩ ?_
    obtain ⟨h8, e9⟩ : ∃ z9, z9 = mx_wi h3 382 i1.toNatClampNeg x2 := ⟨_, rfl⟩
    rw [← e9]
    have H := H h8 e9
    have G10 : mxG h8 := e9 ▸ mxG_wi G5
    exact wp_end (o := .inl none) (h' := h8) (P := True) rfl rfl trivial H
/-! 228: StoneBacksModel.part()I -/
set_option maxRecDepth 8000 in
theorem tr_228_0 {d : Nat} {h : mxH} {Q : mxO → mxH → Prop}  (G : mxG h)  (H : (((mx_i h 381 12) = (-1) → (okT h ∧ (∀ (h4 : mxH), (mxK h h4 ∧ psk h h4) → (((mx_i h4 381 11) < (mx_i h4 381 10) → ((((mx_i h4 381 9) = (-1) → (vp_in (mx_i h4 381 11) 400 ∧ True)) ∧ (¬ (mx_i h4 381 9) = (-1) → (vp_in ((mx_i h4 381 9) + (mx_i h4 381 11)) 769 ∧ True))) ∧ (((V_191 (mx_i h4 382) (V_209 h4 (mx_i h4 381 11)) (48 : Int32) (57 : Int32)) = 0 → (okT h4 ∧ (30 ≤ 68 ∧ 68 < 82 ∧ 68 % 2 = 0) ∧ (∀ (x98 : Int32) (h99 : mxH), p212 68 h4 x98 h99 → ((x98 = 0 → (okT h99 ∧ (30 ≤ 70 ∧ 70 < 82 ∧ 70 % 2 = 0) ∧ (∀ (x105 : Int32) (h106 : mxH), p212 70 h99 x105 h106 → ((x105 = 0 → (okT h106 ∧ (30 ≤ 72 ∧ 72 < 82 ∧ 72 % 2 = 0) ∧ (∀ (x112 : Int32) (h113 : mxH), p212 72 h106 x112 h113 → ((x112 = 0 → (okT h113 ∧ (30 ≤ 74 ∧ 74 < 82 ∧ 74 % 2 = 0) ∧ (∀ (x119 : Int32) (h120 : mxH), p212 74 h113 x119 h120 → ((x119 = 0 → (okT h120 ∧ (30 ≤ 76 ∧ 76 < 82 ∧ 76 % 2 = 0) ∧ (∀ (x126 : Int32) (h127 : mxH), p212 76 h120 x126 h127 → ((x126 = 0 → (okT h127 ∧ (30 ≤ 78 ∧ 78 < 82 ∧ 78 % 2 = 0) ∧ (∀ (x133 : Int32) (h134 : mxH), p212 78 h127 x133 h134 → ((x133 = 0 → (okT h134 ∧ (30 ≤ 80 ∧ 80 < 82 ∧ 80 % 2 = 0) ∧ (∀ (x140 : Int32) (h141 : mxH), p212 80 h134 x140 h141 → (∀ (v144 : Int32), v144 = ((if x140 = 0 then (-1) else 6) : Int32) → ((v144 = (-1) → (∀ h147, h147 = W_213 h141 (mx_i h141 381 11) → Q (.inl (some (.int 0))) h147)) ∧ (¬ v144 = (-1) → (vp_in v144 7 ∧ Q (.inl (some (.int (mx_i h141 387 v144.toNatClampNeg)))) h141))))))) ∧ (¬ x133 = 0 → (((5 : Int32) = (-1) → (∀ h153, h153 = W_213 h134 (mx_i h134 381 11) → Q (.inl (some (.int 0))) h153)) ∧ (¬ (5 : Int32) = (-1) → Q (.inl (some (.int (mx_i h134 387 5)))) h134))))))) ∧ (¬ x126 = 0 → (((4 : Int32) = (-1) → (∀ h158, h158 = W_213 h127 (mx_i h127 381 11) → Q (.inl (some (.int 0))) h158)) ∧ (¬ (4 : Int32) = (-1) → Q (.inl (some (.int (mx_i h127 387 4)))) h127))))))) ∧ (¬ x119 = 0 → (((3 : Int32) = (-1) → (∀ h163, h163 = W_213 h120 (mx_i h120 381 11) → Q (.inl (some (.int 0))) h163)) ∧ (¬ (3 : Int32) = (-1) → Q (.inl (some (.int (mx_i h120 387 3)))) h120))))))) ∧ (¬ x112 = 0 → (((2 : Int32) = (-1) → (∀ h168, h168 = W_213 h113 (mx_i h113 381 11) → Q (.inl (some (.int 0))) h168)) ∧ (¬ (2 : Int32) = (-1) → Q (.inl (some (.int (mx_i h113 387 2)))) h113))))))) ∧ (¬ x105 = 0 → (((1 : Int32) = (-1) → (∀ h173, h173 = W_213 h106 (mx_i h106 381 11) → Q (.inl (some (.int 0))) h173)) ∧ (¬ (1 : Int32) = (-1) → Q (.inl (some (.int (mx_i h106 387 1)))) h106))))))) ∧ (¬ x98 = 0 → (((0 : Int32) = (-1) → (∀ h178, h178 = W_213 h99 (mx_i h99 381 11) → Q (.inl (some (.int 0))) h178)) ∧ (¬ (0 : Int32) = (-1) → Q (.inl (some (.int (mx_i h99 387 0)))) h99))))))) ∧ (¬ (V_191 (mx_i h4 382) (V_209 h4 (mx_i h4 381 11)) (48 : Int32) (57 : Int32)) = 0 → (okT h4 ∧ (∀ (x183 : Int32) (h184 : mxH), p215 (0 : Int32) (999 : Int32) h4 x183 h184 → Q (.inl (some (.int x183))) h184)))))) ∧ (¬ (mx_i h4 381 11) < (mx_i h4 381 10) → (okT h4 ∧ (30 ≤ 68 ∧ 68 < 82 ∧ 68 % 2 = 0) ∧ (∀ (x10 : Int32) (h11 : mxH), p212 68 h4 x10 h11 → ((x10 = 0 → (okT h11 ∧ (30 ≤ 70 ∧ 70 < 82 ∧ 70 % 2 = 0) ∧ (∀ (x17 : Int32) (h18 : mxH), p212 70 h11 x17 h18 → ((x17 = 0 → (okT h18 ∧ (30 ≤ 72 ∧ 72 < 82 ∧ 72 % 2 = 0) ∧ (∀ (x24 : Int32) (h25 : mxH), p212 72 h18 x24 h25 → ((x24 = 0 → (okT h25 ∧ (30 ≤ 74 ∧ 74 < 82 ∧ 74 % 2 = 0) ∧ (∀ (x31 : Int32) (h32 : mxH), p212 74 h25 x31 h32 → ((x31 = 0 → (okT h32 ∧ (30 ≤ 76 ∧ 76 < 82 ∧ 76 % 2 = 0) ∧ (∀ (x38 : Int32) (h39 : mxH), p212 76 h32 x38 h39 → ((x38 = 0 → (okT h39 ∧ (30 ≤ 78 ∧ 78 < 82 ∧ 78 % 2 = 0) ∧ (∀ (x45 : Int32) (h46 : mxH), p212 78 h39 x45 h46 → ((x45 = 0 → (okT h46 ∧ (30 ≤ 80 ∧ 80 < 82 ∧ 80 % 2 = 0) ∧ (∀ (x52 : Int32) (h53 : mxH), p212 80 h46 x52 h53 → (∀ (v56 : Int32), v56 = ((if x52 = 0 then (-1) else 6) : Int32) → ((v56 = (-1) → (∀ h59, h59 = W_213 h53 (mx_i h53 381 11) → Q (.inl (some (.int 0))) h59)) ∧ (¬ v56 = (-1) → (vp_in v56 7 ∧ Q (.inl (some (.int (mx_i h53 387 v56.toNatClampNeg)))) h53))))))) ∧ (¬ x45 = 0 → (((5 : Int32) = (-1) → (∀ h65, h65 = W_213 h46 (mx_i h46 381 11) → Q (.inl (some (.int 0))) h65)) ∧ (¬ (5 : Int32) = (-1) → Q (.inl (some (.int (mx_i h46 387 5)))) h46))))))) ∧ (¬ x38 = 0 → (((4 : Int32) = (-1) → (∀ h70, h70 = W_213 h39 (mx_i h39 381 11) → Q (.inl (some (.int 0))) h70)) ∧ (¬ (4 : Int32) = (-1) → Q (.inl (some (.int (mx_i h39 387 4)))) h39))))))) ∧ (¬ x31 = 0 → (((3 : Int32) = (-1) → (∀ h75, h75 = W_213 h32 (mx_i h32 381 11) → Q (.inl (some (.int 0))) h75)) ∧ (¬ (3 : Int32) = (-1) → Q (.inl (some (.int (mx_i h32 387 3)))) h32))))))) ∧ (¬ x24 = 0 → (((2 : Int32) = (-1) → (∀ h80, h80 = W_213 h25 (mx_i h25 381 11) → Q (.inl (some (.int 0))) h80)) ∧ (¬ (2 : Int32) = (-1) → Q (.inl (some (.int (mx_i h25 387 2)))) h25))))))) ∧ (¬ x17 = 0 → (((1 : Int32) = (-1) → (∀ h85, h85 = W_213 h18 (mx_i h18 381 11) → Q (.inl (some (.int 0))) h85)) ∧ (¬ (1 : Int32) = (-1) → Q (.inl (some (.int (mx_i h18 387 1)))) h18))))))) ∧ (¬ x10 = 0 → (((0 : Int32) = (-1) → (∀ h90, h90 = W_213 h11 (mx_i h11 381 11) → Q (.inl (some (.int 0))) h90)) ∧ (¬ (0 : Int32) = (-1) → Q (.inl (some (.int (mx_i h11 387 0)))) h11))))))))))) ∧ (¬ (mx_i h 381 12) = (-1) → Q (.inl (some (.int 0))) h))) : mx_wp (d + 5) 228 0 (mx_fr 228 [.ref 381]) [] h Q := by
  show mx_wp (d + 5) 228 0 [some (.ref 381), none] [] h Q
  refine wp_steps (i' := 3) (ls' := [some (.ref 381), none]) (st' := [.int (-1), .int (mx_i h 381 12)]) (h' := h) (P := ((mxT 381).1 = 11 ∧ mxG h) ∧ True) 3 rfl rfl ⟨⟨(congrArg Prod.fst sT_381), G⟩, trivial⟩ ?_
  refine wp_br (P := True) (c := (mx_i h 381 12) = (-1)) (t := 6) (st' := []) rfl rfl trivial (fun c1 => ?_) (fun c1 => ?_)
  · skip
    have H := H.1 c1
    refine wp_steps (i' := 7) (ls' := [some (.ref 381), none]) (st' := [.ref 381]) (h' := h) (P := True) 1 rfl rfl trivial ?_
    obtain ⟨o2, H⟩ := H
    refine wp_call (b := false) (y' := 210) (as := [.ref 381]) (rest := []) (P := ((mxT 381).1 = mxRc 210 ∧ mxG h)) rfl (by with_unfolding_all rfl) ⟨(congrArg Prod.fst sT_381), G⟩ (Nat.le_of_ble_eq_true rfl) (sp_210 G o2 ?_)
    intro h4 p5
    show mx_wp (d + 5) 228 8 [some (.ref 381), none] [] h4 Q
    have H := H h4 p5
    have G6 : mxG h4 := mxK_G p5.1 G
    refine wp_steps (i' := 12) (ls' := [some (.ref 381), none]) (st' := [.int (mx_i h4 381 10), .int (mx_i h4 381 11)]) (h' := h4) (P := ((mxT 381).1 = 11 ∧ mxG h4) ∧ ((mxT 381).1 = 11 ∧ mxG h4) ∧ True) 4 rfl rfl ⟨⟨(congrArg Prod.fst sT_381), G6⟩, ⟨(congrArg Prod.fst sT_381), G6⟩, trivial⟩ ?_
    refine wp_br (P := True) (c := (mx_i h4 381 10) ≤ (mx_i h4 381 11)) (t := 26) (st' := []) rfl rfl trivial (fun c7 => ?_) (fun c7 => ?_)
    · have c7 := Int32.not_lt.mpr c7
      have H := H.2 c7
      refine wp_steps (i' := 28) (ls' := [some (.ref 381), none]) (st' := [.ref 68, .ref 381]) (h' := h4) (P := True) 2 rfl rfl trivial ?_
      obtain ⟨o8, o9, H⟩ := H
      refine wp_call (b := false) (y' := 212) (as := [.ref 381, .ref 68]) (rest := []) (P := ((mxT 381).1 = mxRc 212 ∧ mxG h4)) rfl (by with_unfolding_all rfl) ⟨(congrArg Prod.fst sT_381), G6⟩ (Nat.le_of_ble_eq_true rfl) (sp_212 G6 o8 o9 ?_)
      intro x10 h11 p12
      show mx_wp (d + 5) 228 29 [some (.ref 381), none] [.int x10] h11 Q
      have H := H x10 h11 p12
      have G13 : mxG h11 := mxK_G p12.1 G6
      refine wp_br (P := True) (c := x10 = 0) (t := 32) (st' := []) rfl rfl trivial (fun c14 => ?_) (fun c14 => ?_)
      · skip
        have H := H.1 c14
        refine wp_steps (i' := 34) (ls' := [some (.ref 381), none]) (st' := [.ref 70, .ref 381]) (h' := h11) (P := True) 2 rfl rfl trivial ?_
        obtain ⟨o15, o16, H⟩ := H
        refine wp_call (b := false) (y' := 212) (as := [.ref 381, .ref 70]) (rest := []) (P := ((mxT 381).1 = mxRc 212 ∧ mxG h11)) rfl (by with_unfolding_all rfl) ⟨(congrArg Prod.fst sT_381), G13⟩ (Nat.le_of_ble_eq_true rfl) (sp_212 G13 o15 o16 ?_)
        intro x17 h18 p19
        show mx_wp (d + 5) 228 35 [some (.ref 381), none] [.int x17] h18 Q
        have H := H x17 h18 p19
        have G20 : mxG h18 := mxK_G p19.1 G13
        refine wp_br (P := True) (c := x17 = 0) (t := 38) (st' := []) rfl rfl trivial (fun c21 => ?_) (fun c21 => ?_)
        · skip
          have H := H.1 c21
          refine wp_steps (i' := 40) (ls' := [some (.ref 381), none]) (st' := [.ref 72, .ref 381]) (h' := h18) (P := True) 2 rfl rfl trivial ?_
          obtain ⟨o22, o23, H⟩ := H
          refine wp_call (b := false) (y' := 212) (as := [.ref 381, .ref 72]) (rest := []) (P := ((mxT 381).1 = mxRc 212 ∧ mxG h18)) rfl (by with_unfolding_all rfl) ⟨(congrArg Prod.fst sT_381), G20⟩ (Nat.le_of_ble_eq_true rfl) (sp_212 G20 o22 o23 ?_)
          intro x24 h25 p26
          show mx_wp (d + 5) 228 41 [some (.ref 381), none] [.int x24] h25 Q
          have H := H x24 h25 p26
          have G27 : mxG h25 := mxK_G p26.1 G20
          refine wp_br (P := True) (c := x24 = 0) (t := 44) (st' := []) rfl rfl trivial (fun c28 => ?_) (fun c28 => ?_)
          · skip
            have H := H.1 c28
            refine wp_steps (i' := 46) (ls' := [some (.ref 381), none]) (st' := [.ref 74, .ref 381]) (h' := h25) (P := True) 2 rfl rfl trivial ?_
            obtain ⟨o29, o30, H⟩ := H
            refine wp_call (b := false) (y' := 212) (as := [.ref 381, .ref 74]) (rest := []) (P := ((mxT 381).1 = mxRc 212 ∧ mxG h25)) rfl (by with_unfolding_all rfl) ⟨(congrArg Prod.fst sT_381), G27⟩ (Nat.le_of_ble_eq_true rfl) (sp_212 G27 o29 o30 ?_)
            intro x31 h32 p33
            show mx_wp (d + 5) 228 47 [some (.ref 381), none] [.int x31] h32 Q
            have H := H x31 h32 p33
            have G34 : mxG h32 := mxK_G p33.1 G27
            refine wp_br (P := True) (c := x31 = 0) (t := 50) (st' := []) rfl rfl trivial (fun c35 => ?_) (fun c35 => ?_)
            · skip
              have H := H.1 c35
              refine wp_steps (i' := 52) (ls' := [some (.ref 381), none]) (st' := [.ref 76, .ref 381]) (h' := h32) (P := True) 2 rfl rfl trivial ?_
              obtain ⟨o36, o37, H⟩ := H
              refine wp_call (b := false) (y' := 212) (as := [.ref 381, .ref 76]) (rest := []) (P := ((mxT 381).1 = mxRc 212 ∧ mxG h32)) rfl (by with_unfolding_all rfl) ⟨(congrArg Prod.fst sT_381), G34⟩ (Nat.le_of_ble_eq_true rfl) (sp_212 G34 o36 o37 ?_)
              intro x38 h39 p40
              show mx_wp (d + 5) 228 53 [some (.ref 381), none] [.int x38] h39 Q
              have H := H x38 h39 p40
              have G41 : mxG h39 := mxK_G p40.1 G34
              refine wp_br (P := True) (c := x38 = 0) (t := 56) (st' := []) rfl rfl trivial (fun c42 => ?_) (fun c42 => ?_)
              · skip
                have H := H.1 c42
                refine wp_steps (i' := 58) (ls' := [some (.ref 381), none]) (st' := [.ref 78, .ref 381]) (h' := h39) (P := True) 2 rfl rfl trivial ?_
                obtain ⟨o43, o44, H⟩ := H
                refine wp_call (b := false) (y' := 212) (as := [.ref 381, .ref 78]) (rest := []) (P := ((mxT 381).1 = mxRc 212 ∧ mxG h39)) rfl (by with_unfolding_all rfl) ⟨(congrArg Prod.fst sT_381), G41⟩ (Nat.le_of_ble_eq_true rfl) (sp_212 G41 o43 o44 ?_)
                intro x45 h46 p47
                show mx_wp (d + 5) 228 59 [some (.ref 381), none] [.int x45] h46 Q
                have H := H x45 h46 p47
                have G48 : mxG h46 := mxK_G p47.1 G41
                refine wp_br (P := True) (c := x45 = 0) (t := 62) (st' := []) rfl rfl trivial (fun c49 => ?_) (fun c49 => ?_)
                · skip
                  have H := H.1 c49
                  refine wp_steps (i' := 64) (ls' := [some (.ref 381), none]) (st' := [.ref 80, .ref 381]) (h' := h46) (P := True) 2 rfl rfl trivial ?_
                  obtain ⟨o50, o51, H⟩ := H
                  refine wp_call (b := false) (y' := 212) (as := [.ref 381, .ref 80]) (rest := []) (P := ((mxT 381).1 = mxRc 212 ∧ mxG h46)) rfl (by with_unfolding_all rfl) ⟨(congrArg Prod.fst sT_381), G48⟩ (Nat.le_of_ble_eq_true rfl) (sp_212 G48 o50 o51 ?_)
                  intro x52 h53 p54
                  show mx_wp (d + 5) 228 65 [some (.ref 381), none] [.int x52] h53 Q
                  have H := H x52 h53 p54
                  have G55 : mxG h53 := mxK_G p54.1 G48
                  have J : ∀ (v56 : Int32) (ev56 : v56 = ((if x52 = 0 then (-1) else 6) : Int32)), mx_wp (d + 5) 228 69 [some (.ref 381), none] [.int v56] h53 Q := by
                    intro v56 ev56
                    have H := H v56 ev56
                    refine wp_steps (i' := 72) (ls' := [some (.ref 381), some (.int v56)]) (st' := [.int (-1), .int v56]) (h' := h53) (P := True) 3 rfl rfl trivial ?_
                    refine wp_br (P := True) (c := ¬ v56 = (-1)) (t := 79) (st' := []) rfl rfl trivial (fun c57 => ?_) (fun c57 => ?_)
                    · skip
                      have H := H.2 c57
                      obtain ⟨o58, H⟩ := H
                      refine wp_steps (i' := 83) (ls' := [some (.ref 381), some (.int v56)]) (st' := [.int (mx_i h53 387 v56.toNatClampNeg)]) (h' := h53) (P := ((mxT 381).1 = 11 ∧ mxG h53) ∧ (((mxT 387).1 = 50 ∧ mxG h53) ∧ vp_in v56 (mxT 387).2) ∧ True) 4 rfl rfl ⟨⟨(congrArg Prod.fst sT_381), G55⟩, (cA sT_387 G55 o58), trivial⟩ ?_
                      exact wp_end (o := .inl (some (.int (mx_i h53 387 v56.toNatClampNeg)))) (h' := h53) (P := True) rfl rfl trivial H
                    · have c57 := Decidable.of_not_not c57
                      have H := H.1 c57
                      refine wp_steps (i' := 76) (ls' := [some (.ref 381), some (.int v56)]) (st' := [.int (mx_i h53 381 11), .ref 381]) (h' := h53) (P := ((mxT 381).1 = 11 ∧ mxG h53) ∧ True) 3 rfl rfl ⟨⟨(congrArg Prod.fst sT_381), G55⟩, trivial⟩ ?_
                      refine wp_call (b := false) (y' := 213) (as := [.ref 381, .int (mx_i h53 381 11)]) (rest := []) (P := ((mxT 381).1 = mxRc 213 ∧ mxG h53)) rfl (by with_unfolding_all rfl) ⟨(congrArg Prod.fst sT_381), G55⟩ (Nat.le_of_ble_eq_true rfl) (sp_213 G55 ?_)
                      show mx_wp (d + 5) 228 77 [some (.ref 381), some (.int v56)] [] (W_213 h53 (mx_i h53 381 11)) Q
                      obtain ⟨h59, e60⟩ : ∃ z9, z9 = W_213 h53 (mx_i h53 381 11) := ⟨_, rfl⟩
                      rw [← e60]
                      have H := H h59 e60
                      have K62 : mxK h53 h59 := e60 ▸ KW_213
                      have G61 : mxG h59 := mxK_G K62 G55
                      refine wp_steps (i' := 78) (ls' := [some (.ref 381), some (.int v56)]) (st' := [.int 0]) (h' := h59) (P := True) 1 rfl rfl trivial ?_
                      exact wp_end (o := .inl (some (.int 0))) (h' := h59) (P := True) rfl rfl trivial H
                  refine wp_br (P := True) (c := x52 = 0) (t := 68) (st' := []) rfl rfl trivial (fun c63 => ?_) (fun c63 => ?_)
                  · skip
                    refine wp_steps (i' := 69) (ls' := [some (.ref 381), none]) (st' := [.int (-1)]) (h' := h53) (P := True) 1 rfl rfl trivial ?_
                    exact J _ (by rw [if_pos c63])
                  · skip
                    refine wp_steps (i' := 67) (ls' := [some (.ref 381), none]) (st' := [.int 6]) (h' := h53) (P := True) 1 rfl rfl trivial ?_
                    refine wp_J (j := 69) (st' := [.int 6]) rfl rfl ?_
                    exact J _ (by rw [if_neg c63])
                · skip
                  have H := H.2 c49
                  refine wp_steps (i' := 61) (ls' := [some (.ref 381), none]) (st' := [.int 5]) (h' := h46) (P := True) 1 rfl rfl trivial ?_
                  refine wp_J (j := 69) (st' := [.int 5]) rfl rfl ?_
                  refine wp_steps (i' := 72) (ls' := [some (.ref 381), some (.int 5)]) (st' := [.int (-1), .int 5]) (h' := h46) (P := True) 3 rfl rfl trivial ?_
                  refine wp_br (P := True) (c := ¬ (5 : Int32) = (-1)) (t := 79) (st' := []) rfl rfl trivial (fun c64 => ?_) (fun c64 => ?_)
                  · skip
                    have H := H.2 c64
                    refine wp_steps (i' := 83) (ls' := [some (.ref 381), some (.int 5)]) (st' := [.int (mx_i h46 387 5)]) (h' := h46) (P := ((mxT 381).1 = 11 ∧ mxG h46) ∧ (((mxT 387).1 = 50 ∧ mxG h46) ∧ vp_in 5 (mxT 387).2) ∧ True) 4 rfl rfl ⟨⟨(congrArg Prod.fst sT_381), G48⟩, (cA sT_387 G48 (vpl rfl)), trivial⟩ ?_
                    exact wp_end (o := .inl (some (.int (mx_i h46 387 5)))) (h' := h46) (P := True) rfl rfl trivial H
                  · have c64 := Decidable.of_not_not c64
                    have H := H.1 c64
                    refine wp_steps (i' := 76) (ls' := [some (.ref 381), some (.int 5)]) (st' := [.int (mx_i h46 381 11), .ref 381]) (h' := h46) (P := ((mxT 381).1 = 11 ∧ mxG h46) ∧ True) 3 rfl rfl ⟨⟨(congrArg Prod.fst sT_381), G48⟩, trivial⟩ ?_
                    refine wp_call (b := false) (y' := 213) (as := [.ref 381, .int (mx_i h46 381 11)]) (rest := []) (P := ((mxT 381).1 = mxRc 213 ∧ mxG h46)) rfl (by with_unfolding_all rfl) ⟨(congrArg Prod.fst sT_381), G48⟩ (Nat.le_of_ble_eq_true rfl) (sp_213 G48 ?_)
                    show mx_wp (d + 5) 228 77 [some (.ref 381), some (.int 5)] [] (W_213 h46 (mx_i h46 381 11)) Q
                    obtain ⟨h65, e66⟩ : ∃ z9, z9 = W_213 h46 (mx_i h46 381 11) := ⟨_, rfl⟩
                    rw [← e66]
                    have H := H h65 e66
                    have K68 : mxK h46 h65 := e66 ▸ KW_213
                    have G67 : mxG h65 := mxK_G K68 G48
                    refine wp_steps (i' := 78) (ls' := [some (.ref 381), some (.int 5)]) (st' := [.int 0]) (h' := h65) (P := True) 1 rfl rfl trivial ?_
                    exact wp_end (o := .inl (some (.int 0))) (h' := h65) (P := True) rfl rfl trivial H
              · skip
                have H := H.2 c42
                refine wp_steps (i' := 55) (ls' := [some (.ref 381), none]) (st' := [.int 4]) (h' := h39) (P := True) 1 rfl rfl trivial ?_
                refine wp_J (j := 69) (st' := [.int 4]) rfl rfl ?_
                refine wp_steps (i' := 72) (ls' := [some (.ref 381), some (.int 4)]) (st' := [.int (-1), .int 4]) (h' := h39) (P := True) 3 rfl rfl trivial ?_
                refine wp_br (P := True) (c := ¬ (4 : Int32) = (-1)) (t := 79) (st' := []) rfl rfl trivial (fun c69 => ?_) (fun c69 => ?_)
                · skip
                  have H := H.2 c69
                  refine wp_steps (i' := 83) (ls' := [some (.ref 381), some (.int 4)]) (st' := [.int (mx_i h39 387 4)]) (h' := h39) (P := ((mxT 381).1 = 11 ∧ mxG h39) ∧ (((mxT 387).1 = 50 ∧ mxG h39) ∧ vp_in 4 (mxT 387).2) ∧ True) 4 rfl rfl ⟨⟨(congrArg Prod.fst sT_381), G41⟩, (cA sT_387 G41 (vpl rfl)), trivial⟩ ?_
                  exact wp_end (o := .inl (some (.int (mx_i h39 387 4)))) (h' := h39) (P := True) rfl rfl trivial H
                · have c69 := Decidable.of_not_not c69
                  have H := H.1 c69
                  refine wp_steps (i' := 76) (ls' := [some (.ref 381), some (.int 4)]) (st' := [.int (mx_i h39 381 11), .ref 381]) (h' := h39) (P := ((mxT 381).1 = 11 ∧ mxG h39) ∧ True) 3 rfl rfl ⟨⟨(congrArg Prod.fst sT_381), G41⟩, trivial⟩ ?_
                  refine wp_call (b := false) (y' := 213) (as := [.ref 381, .int (mx_i h39 381 11)]) (rest := []) (P := ((mxT 381).1 = mxRc 213 ∧ mxG h39)) rfl (by with_unfolding_all rfl) ⟨(congrArg Prod.fst sT_381), G41⟩ (Nat.le_of_ble_eq_true rfl) (sp_213 G41 ?_)
                  show mx_wp (d + 5) 228 77 [some (.ref 381), some (.int 4)] [] (W_213 h39 (mx_i h39 381 11)) Q
                  obtain ⟨h70, e71⟩ : ∃ z9, z9 = W_213 h39 (mx_i h39 381 11) := ⟨_, rfl⟩
                  rw [← e71]
                  have H := H h70 e71
                  have K73 : mxK h39 h70 := e71 ▸ KW_213
                  have G72 : mxG h70 := mxK_G K73 G41
                  refine wp_steps (i' := 78) (ls' := [some (.ref 381), some (.int 4)]) (st' := [.int 0]) (h' := h70) (P := True) 1 rfl rfl trivial ?_
                  exact wp_end (o := .inl (some (.int 0))) (h' := h70) (P := True) rfl rfl trivial H
            · skip
              have H := H.2 c35
              refine wp_steps (i' := 49) (ls' := [some (.ref 381), none]) (st' := [.int 3]) (h' := h32) (P := True) 1 rfl rfl trivial ?_
              refine wp_J (j := 69) (st' := [.int 3]) rfl rfl ?_
              refine wp_steps (i' := 72) (ls' := [some (.ref 381), some (.int 3)]) (st' := [.int (-1), .int 3]) (h' := h32) (P := True) 3 rfl rfl trivial ?_
              refine wp_br (P := True) (c := ¬ (3 : Int32) = (-1)) (t := 79) (st' := []) rfl rfl trivial (fun c74 => ?_) (fun c74 => ?_)
              · skip
                have H := H.2 c74
                refine wp_steps (i' := 83) (ls' := [some (.ref 381), some (.int 3)]) (st' := [.int (mx_i h32 387 3)]) (h' := h32) (P := ((mxT 381).1 = 11 ∧ mxG h32) ∧ (((mxT 387).1 = 50 ∧ mxG h32) ∧ vp_in 3 (mxT 387).2) ∧ True) 4 rfl rfl ⟨⟨(congrArg Prod.fst sT_381), G34⟩, (cA sT_387 G34 (vpl rfl)), trivial⟩ ?_
                exact wp_end (o := .inl (some (.int (mx_i h32 387 3)))) (h' := h32) (P := True) rfl rfl trivial H
              · have c74 := Decidable.of_not_not c74
                have H := H.1 c74
                refine wp_steps (i' := 76) (ls' := [some (.ref 381), some (.int 3)]) (st' := [.int (mx_i h32 381 11), .ref 381]) (h' := h32) (P := ((mxT 381).1 = 11 ∧ mxG h32) ∧ True) 3 rfl rfl ⟨⟨(congrArg Prod.fst sT_381), G34⟩, trivial⟩ ?_
                refine wp_call (b := false) (y' := 213) (as := [.ref 381, .int (mx_i h32 381 11)]) (rest := []) (P := ((mxT 381).1 = mxRc 213 ∧ mxG h32)) rfl (by with_unfolding_all rfl) ⟨(congrArg Prod.fst sT_381), G34⟩ (Nat.le_of_ble_eq_true rfl) (sp_213 G34 ?_)
                show mx_wp (d + 5) 228 77 [some (.ref 381), some (.int 3)] [] (W_213 h32 (mx_i h32 381 11)) Q
                obtain ⟨h75, e76⟩ : ∃ z9, z9 = W_213 h32 (mx_i h32 381 11) := ⟨_, rfl⟩
                rw [← e76]
                have H := H h75 e76
                have K78 : mxK h32 h75 := e76 ▸ KW_213
                have G77 : mxG h75 := mxK_G K78 G34
                refine wp_steps (i' := 78) (ls' := [some (.ref 381), some (.int 3)]) (st' := [.int 0]) (h' := h75) (P := True) 1 rfl rfl trivial ?_
                exact wp_end (o := .inl (some (.int 0))) (h' := h75) (P := True) rfl rfl trivial H
          · skip
            have H := H.2 c28
            refine wp_steps (i' := 43) (ls' := [some (.ref 381), none]) (st' := [.int 2]) (h' := h25) (P := True) 1 rfl rfl trivial ?_
            refine wp_J (j := 69) (st' := [.int 2]) rfl rfl ?_
            refine wp_steps (i' := 72) (ls' := [some (.ref 381), some (.int 2)]) (st' := [.int (-1), .int 2]) (h' := h25) (P := True) 3 rfl rfl trivial ?_
            refine wp_br (P := True) (c := ¬ (2 : Int32) = (-1)) (t := 79) (st' := []) rfl rfl trivial (fun c79 => ?_) (fun c79 => ?_)
            · skip
              have H := H.2 c79
              refine wp_steps (i' := 83) (ls' := [some (.ref 381), some (.int 2)]) (st' := [.int (mx_i h25 387 2)]) (h' := h25) (P := ((mxT 381).1 = 11 ∧ mxG h25) ∧ (((mxT 387).1 = 50 ∧ mxG h25) ∧ vp_in 2 (mxT 387).2) ∧ True) 4 rfl rfl ⟨⟨(congrArg Prod.fst sT_381), G27⟩, (cA sT_387 G27 (vpl rfl)), trivial⟩ ?_
              exact wp_end (o := .inl (some (.int (mx_i h25 387 2)))) (h' := h25) (P := True) rfl rfl trivial H
            · have c79 := Decidable.of_not_not c79
              have H := H.1 c79
              refine wp_steps (i' := 76) (ls' := [some (.ref 381), some (.int 2)]) (st' := [.int (mx_i h25 381 11), .ref 381]) (h' := h25) (P := ((mxT 381).1 = 11 ∧ mxG h25) ∧ True) 3 rfl rfl ⟨⟨(congrArg Prod.fst sT_381), G27⟩, trivial⟩ ?_
              refine wp_call (b := false) (y' := 213) (as := [.ref 381, .int (mx_i h25 381 11)]) (rest := []) (P := ((mxT 381).1 = mxRc 213 ∧ mxG h25)) rfl (by with_unfolding_all rfl) ⟨(congrArg Prod.fst sT_381), G27⟩ (Nat.le_of_ble_eq_true rfl) (sp_213 G27 ?_)
              show mx_wp (d + 5) 228 77 [some (.ref 381), some (.int 2)] [] (W_213 h25 (mx_i h25 381 11)) Q
              obtain ⟨h80, e81⟩ : ∃ z9, z9 = W_213 h25 (mx_i h25 381 11) := ⟨_, rfl⟩
              rw [← e81]
              have H := H h80 e81
              have K83 : mxK h25 h80 := e81 ▸ KW_213
              have G82 : mxG h80 := mxK_G K83 G27
              refine wp_steps (i' := 78) (ls' := [some (.ref 381), some (.int 2)]) (st' := [.int 0]) (h' := h80) (P := True) 1 rfl rfl trivial ?_
              exact wp_end (o := .inl (some (.int 0))) (h' := h80) (P := True) rfl rfl trivial H
        · skip
          have H := H.2 c21
          refine wp_steps (i' := 37) (ls' := [some (.ref 381), none]) (st' := [.int 1]) (h' := h18) (P := True) 1 rfl rfl trivial ?_
          refine wp_J (j := 69) (st' := [.int 1]) rfl rfl ?_
          refine wp_steps (i' := 72) (ls' := [some (.ref 381), some (.int 1)]) (st' := [.int (-1), .int 1]) (h' := h18) (P := True) 3 rfl rfl trivial ?_
          refine wp_br (P := True) (c := ¬ (1 : Int32) = (-1)) (t := 79) (st' := []) rfl rfl trivial (fun c84 => ?_) (fun c84 => ?_)
          · skip
            have H := H.2 c84
            refine wp_steps (i' := 83) (ls' := [some (.ref 381), some (.int 1)]) (st' := [.int (mx_i h18 387 1)]) (h' := h18) (P := ((mxT 381).1 = 11 ∧ mxG h18) ∧ (((mxT 387).1 = 50 ∧ mxG h18) ∧ vp_in 1 (mxT 387).2) ∧ True) 4 rfl rfl ⟨⟨(congrArg Prod.fst sT_381), G20⟩, (cA sT_387 G20 (vpl rfl)), trivial⟩ ?_
            exact wp_end (o := .inl (some (.int (mx_i h18 387 1)))) (h' := h18) (P := True) rfl rfl trivial H
          · have c84 := Decidable.of_not_not c84
            have H := H.1 c84
            refine wp_steps (i' := 76) (ls' := [some (.ref 381), some (.int 1)]) (st' := [.int (mx_i h18 381 11), .ref 381]) (h' := h18) (P := ((mxT 381).1 = 11 ∧ mxG h18) ∧ True) 3 rfl rfl ⟨⟨(congrArg Prod.fst sT_381), G20⟩, trivial⟩ ?_
            refine wp_call (b := false) (y' := 213) (as := [.ref 381, .int (mx_i h18 381 11)]) (rest := []) (P := ((mxT 381).1 = mxRc 213 ∧ mxG h18)) rfl (by with_unfolding_all rfl) ⟨(congrArg Prod.fst sT_381), G20⟩ (Nat.le_of_ble_eq_true rfl) (sp_213 G20 ?_)
            show mx_wp (d + 5) 228 77 [some (.ref 381), some (.int 1)] [] (W_213 h18 (mx_i h18 381 11)) Q
            obtain ⟨h85, e86⟩ : ∃ z9, z9 = W_213 h18 (mx_i h18 381 11) := ⟨_, rfl⟩
            rw [← e86]
            have H := H h85 e86
            have K88 : mxK h18 h85 := e86 ▸ KW_213
            have G87 : mxG h85 := mxK_G K88 G20
            refine wp_steps (i' := 78) (ls' := [some (.ref 381), some (.int 1)]) (st' := [.int 0]) (h' := h85) (P := True) 1 rfl rfl trivial ?_
            exact wp_end (o := .inl (some (.int 0))) (h' := h85) (P := True) rfl rfl trivial H
      · skip
        have H := H.2 c14
        refine wp_steps (i' := 31) (ls' := [some (.ref 381), none]) (st' := [.int 0]) (h' := h11) (P := True) 1 rfl rfl trivial ?_
        refine wp_J (j := 69) (st' := [.int 0]) rfl rfl ?_
        refine wp_steps (i' := 72) (ls' := [some (.ref 381), some (.int 0)]) (st' := [.int (-1), .int 0]) (h' := h11) (P := True) 3 rfl rfl trivial ?_
        refine wp_br (P := True) (c := ¬ (0 : Int32) = (-1)) (t := 79) (st' := []) rfl rfl trivial (fun c89 => ?_) (fun c89 => ?_)
        · skip
          have H := H.2 c89
          refine wp_steps (i' := 83) (ls' := [some (.ref 381), some (.int 0)]) (st' := [.int (mx_i h11 387 0)]) (h' := h11) (P := ((mxT 381).1 = 11 ∧ mxG h11) ∧ (((mxT 387).1 = 50 ∧ mxG h11) ∧ vp_in 0 (mxT 387).2) ∧ True) 4 rfl rfl ⟨⟨(congrArg Prod.fst sT_381), G13⟩, (cA sT_387 G13 (vpl rfl)), trivial⟩ ?_
          exact wp_end (o := .inl (some (.int (mx_i h11 387 0)))) (h' := h11) (P := True) rfl rfl trivial H
        · have c89 := Decidable.of_not_not c89
          have H := H.1 c89
          refine wp_steps (i' := 76) (ls' := [some (.ref 381), some (.int 0)]) (st' := [.int (mx_i h11 381 11), .ref 381]) (h' := h11) (P := ((mxT 381).1 = 11 ∧ mxG h11) ∧ True) 3 rfl rfl ⟨⟨(congrArg Prod.fst sT_381), G13⟩, trivial⟩ ?_
          refine wp_call (b := false) (y' := 213) (as := [.ref 381, .int (mx_i h11 381 11)]) (rest := []) (P := ((mxT 381).1 = mxRc 213 ∧ mxG h11)) rfl (by with_unfolding_all rfl) ⟨(congrArg Prod.fst sT_381), G13⟩ (Nat.le_of_ble_eq_true rfl) (sp_213 G13 ?_)
          show mx_wp (d + 5) 228 77 [some (.ref 381), some (.int 0)] [] (W_213 h11 (mx_i h11 381 11)) Q
          obtain ⟨h90, e91⟩ : ∃ z9, z9 = W_213 h11 (mx_i h11 381 11) := ⟨_, rfl⟩
          rw [← e91]
          have H := H h90 e91
          have K93 : mxK h11 h90 := e91 ▸ KW_213
          have G92 : mxG h90 := mxK_G K93 G13
          refine wp_steps (i' := 78) (ls' := [some (.ref 381), some (.int 0)]) (st' := [.int 0]) (h' := h90) (P := True) 1 rfl rfl trivial ?_
          exact wp_end (o := .inl (some (.int 0))) (h' := h90) (P := True) rfl rfl trivial H
    · have c7 := Int32.not_le.mp c7
      have H := H.1 c7
      refine wp_steps (i' := 16) (ls' := [some (.ref 381), none]) (st' := [.int (mx_i h4 381 11), .ref 381]) (h' := h4) (P := ((mxT 381).1 = 11 ∧ mxG h4) ∧ True) 3 rfl rfl ⟨⟨(congrArg Prod.fst sT_381), G6⟩, trivial⟩ ?_
      obtain ⟨o94, H⟩ := H
      refine wp_call (b := false) (y' := 209) (as := [.ref 381, .int (mx_i h4 381 11)]) (rest := []) (P := ((mxT 381).1 = mxRc 209 ∧ mxG h4)) rfl (by with_unfolding_all rfl) ⟨(congrArg Prod.fst sT_381), G6⟩ (Nat.le_of_ble_eq_true rfl) (sp_209 G6 o94 ?_)
      show mx_wp (d + 5) 228 17 [some (.ref 381), none] [.int (V_209 h4 (mx_i h4 381 11))] h4 Q
      refine wp_steps (i' := 19) (ls' := [some (.ref 381), none]) (st' := [.int 57, .int 48, .int (V_209 h4 (mx_i h4 381 11))]) (h' := h4) (P := True) 2 rfl rfl trivial ?_
      refine wp_call (b := false) (y' := 191) (as := [.int (V_209 h4 (mx_i h4 381 11)), .int 48, .int 57]) (rest := []) (P := True) rfl (by with_unfolding_all rfl) trivial (Nat.le_of_ble_eq_true rfl) (sp_191 G6 ?_)
      show mx_wp (d + 5) 228 20 [some (.ref 381), none] [.int (V_191 (mx_i h4 382) (V_209 h4 (mx_i h4 381 11)) (48 : Int32) (57 : Int32))] h4 Q
      refine wp_br (P := True) (c := (V_191 (mx_i h4 382) (V_209 h4 (mx_i h4 381 11)) (48 : Int32) (57 : Int32)) = 0) (t := 26) (st' := []) rfl rfl trivial (fun c95 => ?_) (fun c95 => ?_)
      · skip
        have H := H.1 c95
        refine wp_steps (i' := 28) (ls' := [some (.ref 381), none]) (st' := [.ref 68, .ref 381]) (h' := h4) (P := True) 2 rfl rfl trivial ?_
        obtain ⟨o96, o97, H⟩ := H
        refine wp_call (b := false) (y' := 212) (as := [.ref 381, .ref 68]) (rest := []) (P := ((mxT 381).1 = mxRc 212 ∧ mxG h4)) rfl (by with_unfolding_all rfl) ⟨(congrArg Prod.fst sT_381), G6⟩ (Nat.le_of_ble_eq_true rfl) (sp_212 G6 o96 o97 ?_)
        intro x98 h99 p100
        show mx_wp (d + 5) 228 29 [some (.ref 381), none] [.int x98] h99 Q
        have H := H x98 h99 p100
        have G101 : mxG h99 := mxK_G p100.1 G6
        refine wp_br (P := True) (c := x98 = 0) (t := 32) (st' := []) rfl rfl trivial (fun c102 => ?_) (fun c102 => ?_)
        · skip
          have H := H.1 c102
          refine wp_steps (i' := 34) (ls' := [some (.ref 381), none]) (st' := [.ref 70, .ref 381]) (h' := h99) (P := True) 2 rfl rfl trivial ?_
          obtain ⟨o103, o104, H⟩ := H
          refine wp_call (b := false) (y' := 212) (as := [.ref 381, .ref 70]) (rest := []) (P := ((mxT 381).1 = mxRc 212 ∧ mxG h99)) rfl (by with_unfolding_all rfl) ⟨(congrArg Prod.fst sT_381), G101⟩ (Nat.le_of_ble_eq_true rfl) (sp_212 G101 o103 o104 ?_)
          intro x105 h106 p107
          show mx_wp (d + 5) 228 35 [some (.ref 381), none] [.int x105] h106 Q
          have H := H x105 h106 p107
          have G108 : mxG h106 := mxK_G p107.1 G101
          refine wp_br (P := True) (c := x105 = 0) (t := 38) (st' := []) rfl rfl trivial (fun c109 => ?_) (fun c109 => ?_)
          · skip
            have H := H.1 c109
            refine wp_steps (i' := 40) (ls' := [some (.ref 381), none]) (st' := [.ref 72, .ref 381]) (h' := h106) (P := True) 2 rfl rfl trivial ?_
            obtain ⟨o110, o111, H⟩ := H
            refine wp_call (b := false) (y' := 212) (as := [.ref 381, .ref 72]) (rest := []) (P := ((mxT 381).1 = mxRc 212 ∧ mxG h106)) rfl (by with_unfolding_all rfl) ⟨(congrArg Prod.fst sT_381), G108⟩ (Nat.le_of_ble_eq_true rfl) (sp_212 G108 o110 o111 ?_)
            intro x112 h113 p114
            show mx_wp (d + 5) 228 41 [some (.ref 381), none] [.int x112] h113 Q
            have H := H x112 h113 p114
            have G115 : mxG h113 := mxK_G p114.1 G108
            refine wp_br (P := True) (c := x112 = 0) (t := 44) (st' := []) rfl rfl trivial (fun c116 => ?_) (fun c116 => ?_)
            · skip
              have H := H.1 c116
              refine wp_steps (i' := 46) (ls' := [some (.ref 381), none]) (st' := [.ref 74, .ref 381]) (h' := h113) (P := True) 2 rfl rfl trivial ?_
              obtain ⟨o117, o118, H⟩ := H
              refine wp_call (b := false) (y' := 212) (as := [.ref 381, .ref 74]) (rest := []) (P := ((mxT 381).1 = mxRc 212 ∧ mxG h113)) rfl (by with_unfolding_all rfl) ⟨(congrArg Prod.fst sT_381), G115⟩ (Nat.le_of_ble_eq_true rfl) (sp_212 G115 o117 o118 ?_)
              intro x119 h120 p121
              show mx_wp (d + 5) 228 47 [some (.ref 381), none] [.int x119] h120 Q
              have H := H x119 h120 p121
              have G122 : mxG h120 := mxK_G p121.1 G115
              refine wp_br (P := True) (c := x119 = 0) (t := 50) (st' := []) rfl rfl trivial (fun c123 => ?_) (fun c123 => ?_)
              · skip
                have H := H.1 c123
                refine wp_steps (i' := 52) (ls' := [some (.ref 381), none]) (st' := [.ref 76, .ref 381]) (h' := h120) (P := True) 2 rfl rfl trivial ?_
                obtain ⟨o124, o125, H⟩ := H
                refine wp_call (b := false) (y' := 212) (as := [.ref 381, .ref 76]) (rest := []) (P := ((mxT 381).1 = mxRc 212 ∧ mxG h120)) rfl (by with_unfolding_all rfl) ⟨(congrArg Prod.fst sT_381), G122⟩ (Nat.le_of_ble_eq_true rfl) (sp_212 G122 o124 o125 ?_)
                intro x126 h127 p128
                show mx_wp (d + 5) 228 53 [some (.ref 381), none] [.int x126] h127 Q
                have H := H x126 h127 p128
                have G129 : mxG h127 := mxK_G p128.1 G122
                refine wp_br (P := True) (c := x126 = 0) (t := 56) (st' := []) rfl rfl trivial (fun c130 => ?_) (fun c130 => ?_)
                · skip
                  have H := H.1 c130
                  refine wp_steps (i' := 58) (ls' := [some (.ref 381), none]) (st' := [.ref 78, .ref 381]) (h' := h127) (P := True) 2 rfl rfl trivial ?_
                  obtain ⟨o131, o132, H⟩ := H
                  refine wp_call (b := false) (y' := 212) (as := [.ref 381, .ref 78]) (rest := []) (P := ((mxT 381).1 = mxRc 212 ∧ mxG h127)) rfl (by with_unfolding_all rfl) ⟨(congrArg Prod.fst sT_381), G129⟩ (Nat.le_of_ble_eq_true rfl) (sp_212 G129 o131 o132 ?_)
                  intro x133 h134 p135
                  show mx_wp (d + 5) 228 59 [some (.ref 381), none] [.int x133] h134 Q
                  have H := H x133 h134 p135
                  have G136 : mxG h134 := mxK_G p135.1 G129
                  refine wp_br (P := True) (c := x133 = 0) (t := 62) (st' := []) rfl rfl trivial (fun c137 => ?_) (fun c137 => ?_)
                  · skip
                    have H := H.1 c137
                    refine wp_steps (i' := 64) (ls' := [some (.ref 381), none]) (st' := [.ref 80, .ref 381]) (h' := h134) (P := True) 2 rfl rfl trivial ?_
                    obtain ⟨o138, o139, H⟩ := H
                    refine wp_call (b := false) (y' := 212) (as := [.ref 381, .ref 80]) (rest := []) (P := ((mxT 381).1 = mxRc 212 ∧ mxG h134)) rfl (by with_unfolding_all rfl) ⟨(congrArg Prod.fst sT_381), G136⟩ (Nat.le_of_ble_eq_true rfl) (sp_212 G136 o138 o139 ?_)
                    intro x140 h141 p142
                    show mx_wp (d + 5) 228 65 [some (.ref 381), none] [.int x140] h141 Q
                    have H := H x140 h141 p142
                    have G143 : mxG h141 := mxK_G p142.1 G136
                    have J : ∀ (v144 : Int32) (ev144 : v144 = ((if x140 = 0 then (-1) else 6) : Int32)), mx_wp (d + 5) 228 69 [some (.ref 381), none] [.int v144] h141 Q := by
                      intro v144 ev144
                      have H := H v144 ev144
                      refine wp_steps (i' := 72) (ls' := [some (.ref 381), some (.int v144)]) (st' := [.int (-1), .int v144]) (h' := h141) (P := True) 3 rfl rfl trivial ?_
                      refine wp_br (P := True) (c := ¬ v144 = (-1)) (t := 79) (st' := []) rfl rfl trivial (fun c145 => ?_) (fun c145 => ?_)
                      · skip
                        have H := H.2 c145
                        obtain ⟨o146, H⟩ := H
                        refine wp_steps (i' := 83) (ls' := [some (.ref 381), some (.int v144)]) (st' := [.int (mx_i h141 387 v144.toNatClampNeg)]) (h' := h141) (P := ((mxT 381).1 = 11 ∧ mxG h141) ∧ (((mxT 387).1 = 50 ∧ mxG h141) ∧ vp_in v144 (mxT 387).2) ∧ True) 4 rfl rfl ⟨⟨(congrArg Prod.fst sT_381), G143⟩, (cA sT_387 G143 o146), trivial⟩ ?_
                        exact wp_end (o := .inl (some (.int (mx_i h141 387 v144.toNatClampNeg)))) (h' := h141) (P := True) rfl rfl trivial H
                      · have c145 := Decidable.of_not_not c145
                        have H := H.1 c145
                        refine wp_steps (i' := 76) (ls' := [some (.ref 381), some (.int v144)]) (st' := [.int (mx_i h141 381 11), .ref 381]) (h' := h141) (P := ((mxT 381).1 = 11 ∧ mxG h141) ∧ True) 3 rfl rfl ⟨⟨(congrArg Prod.fst sT_381), G143⟩, trivial⟩ ?_
                        refine wp_call (b := false) (y' := 213) (as := [.ref 381, .int (mx_i h141 381 11)]) (rest := []) (P := ((mxT 381).1 = mxRc 213 ∧ mxG h141)) rfl (by with_unfolding_all rfl) ⟨(congrArg Prod.fst sT_381), G143⟩ (Nat.le_of_ble_eq_true rfl) (sp_213 G143 ?_)
                        show mx_wp (d + 5) 228 77 [some (.ref 381), some (.int v144)] [] (W_213 h141 (mx_i h141 381 11)) Q
                        obtain ⟨h147, e148⟩ : ∃ z9, z9 = W_213 h141 (mx_i h141 381 11) := ⟨_, rfl⟩
                        rw [← e148]
                        have H := H h147 e148
                        have K150 : mxK h141 h147 := e148 ▸ KW_213
                        have G149 : mxG h147 := mxK_G K150 G143
                        refine wp_steps (i' := 78) (ls' := [some (.ref 381), some (.int v144)]) (st' := [.int 0]) (h' := h147) (P := True) 1 rfl rfl trivial ?_
                        exact wp_end (o := .inl (some (.int 0))) (h' := h147) (P := True) rfl rfl trivial H
                    refine wp_br (P := True) (c := x140 = 0) (t := 68) (st' := []) rfl rfl trivial (fun c151 => ?_) (fun c151 => ?_)
                    · skip
                      refine wp_steps (i' := 69) (ls' := [some (.ref 381), none]) (st' := [.int (-1)]) (h' := h141) (P := True) 1 rfl rfl trivial ?_
                      exact J _ (by rw [if_pos c151])
                    · skip
                      refine wp_steps (i' := 67) (ls' := [some (.ref 381), none]) (st' := [.int 6]) (h' := h141) (P := True) 1 rfl rfl trivial ?_
                      refine wp_J (j := 69) (st' := [.int 6]) rfl rfl ?_
                      exact J _ (by rw [if_neg c151])
                  · skip
                    have H := H.2 c137
                    refine wp_steps (i' := 61) (ls' := [some (.ref 381), none]) (st' := [.int 5]) (h' := h134) (P := True) 1 rfl rfl trivial ?_
                    refine wp_J (j := 69) (st' := [.int 5]) rfl rfl ?_
                    refine wp_steps (i' := 72) (ls' := [some (.ref 381), some (.int 5)]) (st' := [.int (-1), .int 5]) (h' := h134) (P := True) 3 rfl rfl trivial ?_
                    refine wp_br (P := True) (c := ¬ (5 : Int32) = (-1)) (t := 79) (st' := []) rfl rfl trivial (fun c152 => ?_) (fun c152 => ?_)
                    · skip
                      have H := H.2 c152
                      refine wp_steps (i' := 83) (ls' := [some (.ref 381), some (.int 5)]) (st' := [.int (mx_i h134 387 5)]) (h' := h134) (P := ((mxT 381).1 = 11 ∧ mxG h134) ∧ (((mxT 387).1 = 50 ∧ mxG h134) ∧ vp_in 5 (mxT 387).2) ∧ True) 4 rfl rfl ⟨⟨(congrArg Prod.fst sT_381), G136⟩, (cA sT_387 G136 (vpl rfl)), trivial⟩ ?_
                      exact wp_end (o := .inl (some (.int (mx_i h134 387 5)))) (h' := h134) (P := True) rfl rfl trivial H
                    · have c152 := Decidable.of_not_not c152
                      have H := H.1 c152
                      refine wp_steps (i' := 76) (ls' := [some (.ref 381), some (.int 5)]) (st' := [.int (mx_i h134 381 11), .ref 381]) (h' := h134) (P := ((mxT 381).1 = 11 ∧ mxG h134) ∧ True) 3 rfl rfl ⟨⟨(congrArg Prod.fst sT_381), G136⟩, trivial⟩ ?_
                      refine wp_call (b := false) (y' := 213) (as := [.ref 381, .int (mx_i h134 381 11)]) (rest := []) (P := ((mxT 381).1 = mxRc 213 ∧ mxG h134)) rfl (by with_unfolding_all rfl) ⟨(congrArg Prod.fst sT_381), G136⟩ (Nat.le_of_ble_eq_true rfl) (sp_213 G136 ?_)
                      show mx_wp (d + 5) 228 77 [some (.ref 381), some (.int 5)] [] (W_213 h134 (mx_i h134 381 11)) Q
                      obtain ⟨h153, e154⟩ : ∃ z9, z9 = W_213 h134 (mx_i h134 381 11) := ⟨_, rfl⟩
                      rw [← e154]
                      have H := H h153 e154
                      have K156 : mxK h134 h153 := e154 ▸ KW_213
                      have G155 : mxG h153 := mxK_G K156 G136
                      refine wp_steps (i' := 78) (ls' := [some (.ref 381), some (.int 5)]) (st' := [.int 0]) (h' := h153) (P := True) 1 rfl rfl trivial ?_
                      exact wp_end (o := .inl (some (.int 0))) (h' := h153) (P := True) rfl rfl trivial H
                · skip
                  have H := H.2 c130
                  refine wp_steps (i' := 55) (ls' := [some (.ref 381), none]) (st' := [.int 4]) (h' := h127) (P := True) 1 rfl rfl trivial ?_
                  refine wp_J (j := 69) (st' := [.int 4]) rfl rfl ?_
                  refine wp_steps (i' := 72) (ls' := [some (.ref 381), some (.int 4)]) (st' := [.int (-1), .int 4]) (h' := h127) (P := True) 3 rfl rfl trivial ?_
                  refine wp_br (P := True) (c := ¬ (4 : Int32) = (-1)) (t := 79) (st' := []) rfl rfl trivial (fun c157 => ?_) (fun c157 => ?_)
                  · skip
                    have H := H.2 c157
                    refine wp_steps (i' := 83) (ls' := [some (.ref 381), some (.int 4)]) (st' := [.int (mx_i h127 387 4)]) (h' := h127) (P := ((mxT 381).1 = 11 ∧ mxG h127) ∧ (((mxT 387).1 = 50 ∧ mxG h127) ∧ vp_in 4 (mxT 387).2) ∧ True) 4 rfl rfl ⟨⟨(congrArg Prod.fst sT_381), G129⟩, (cA sT_387 G129 (vpl rfl)), trivial⟩ ?_
                    exact wp_end (o := .inl (some (.int (mx_i h127 387 4)))) (h' := h127) (P := True) rfl rfl trivial H
                  · have c157 := Decidable.of_not_not c157
                    have H := H.1 c157
                    refine wp_steps (i' := 76) (ls' := [some (.ref 381), some (.int 4)]) (st' := [.int (mx_i h127 381 11), .ref 381]) (h' := h127) (P := ((mxT 381).1 = 11 ∧ mxG h127) ∧ True) 3 rfl rfl ⟨⟨(congrArg Prod.fst sT_381), G129⟩, trivial⟩ ?_
                    refine wp_call (b := false) (y' := 213) (as := [.ref 381, .int (mx_i h127 381 11)]) (rest := []) (P := ((mxT 381).1 = mxRc 213 ∧ mxG h127)) rfl (by with_unfolding_all rfl) ⟨(congrArg Prod.fst sT_381), G129⟩ (Nat.le_of_ble_eq_true rfl) (sp_213 G129 ?_)
                    show mx_wp (d + 5) 228 77 [some (.ref 381), some (.int 4)] [] (W_213 h127 (mx_i h127 381 11)) Q
                    obtain ⟨h158, e159⟩ : ∃ z9, z9 = W_213 h127 (mx_i h127 381 11) := ⟨_, rfl⟩
                    rw [← e159]
                    have H := H h158 e159
                    have K161 : mxK h127 h158 := e159 ▸ KW_213
                    have G160 : mxG h158 := mxK_G K161 G129
                    refine wp_steps (i' := 78) (ls' := [some (.ref 381), some (.int 4)]) (st' := [.int 0]) (h' := h158) (P := True) 1 rfl rfl trivial ?_
                    exact wp_end (o := .inl (some (.int 0))) (h' := h158) (P := True) rfl rfl trivial H
              · skip
                have H := H.2 c123
                refine wp_steps (i' := 49) (ls' := [some (.ref 381), none]) (st' := [.int 3]) (h' := h120) (P := True) 1 rfl rfl trivial ?_
                refine wp_J (j := 69) (st' := [.int 3]) rfl rfl ?_
                refine wp_steps (i' := 72) (ls' := [some (.ref 381), some (.int 3)]) (st' := [.int (-1), .int 3]) (h' := h120) (P := True) 3 rfl rfl trivial ?_
                refine wp_br (P := True) (c := ¬ (3 : Int32) = (-1)) (t := 79) (st' := []) rfl rfl trivial (fun c162 => ?_) (fun c162 => ?_)
                · skip
                  have H := H.2 c162
                  refine wp_steps (i' := 83) (ls' := [some (.ref 381), some (.int 3)]) (st' := [.int (mx_i h120 387 3)]) (h' := h120) (P := ((mxT 381).1 = 11 ∧ mxG h120) ∧ (((mxT 387).1 = 50 ∧ mxG h120) ∧ vp_in 3 (mxT 387).2) ∧ True) 4 rfl rfl ⟨⟨(congrArg Prod.fst sT_381), G122⟩, (cA sT_387 G122 (vpl rfl)), trivial⟩ ?_
                  exact wp_end (o := .inl (some (.int (mx_i h120 387 3)))) (h' := h120) (P := True) rfl rfl trivial H
                · have c162 := Decidable.of_not_not c162
                  have H := H.1 c162
                  refine wp_steps (i' := 76) (ls' := [some (.ref 381), some (.int 3)]) (st' := [.int (mx_i h120 381 11), .ref 381]) (h' := h120) (P := ((mxT 381).1 = 11 ∧ mxG h120) ∧ True) 3 rfl rfl ⟨⟨(congrArg Prod.fst sT_381), G122⟩, trivial⟩ ?_
                  refine wp_call (b := false) (y' := 213) (as := [.ref 381, .int (mx_i h120 381 11)]) (rest := []) (P := ((mxT 381).1 = mxRc 213 ∧ mxG h120)) rfl (by with_unfolding_all rfl) ⟨(congrArg Prod.fst sT_381), G122⟩ (Nat.le_of_ble_eq_true rfl) (sp_213 G122 ?_)
                  show mx_wp (d + 5) 228 77 [some (.ref 381), some (.int 3)] [] (W_213 h120 (mx_i h120 381 11)) Q
                  obtain ⟨h163, e164⟩ : ∃ z9, z9 = W_213 h120 (mx_i h120 381 11) := ⟨_, rfl⟩
                  rw [← e164]
                  have H := H h163 e164
                  have K166 : mxK h120 h163 := e164 ▸ KW_213
                  have G165 : mxG h163 := mxK_G K166 G122
                  refine wp_steps (i' := 78) (ls' := [some (.ref 381), some (.int 3)]) (st' := [.int 0]) (h' := h163) (P := True) 1 rfl rfl trivial ?_
                  exact wp_end (o := .inl (some (.int 0))) (h' := h163) (P := True) rfl rfl trivial H
            · skip
              have H := H.2 c116
              refine wp_steps (i' := 43) (ls' := [some (.ref 381), none]) (st' := [.int 2]) (h' := h113) (P := True) 1 rfl rfl trivial ?_
              refine wp_J (j := 69) (st' := [.int 2]) rfl rfl ?_
              refine wp_steps (i' := 72) (ls' := [some (.ref 381), some (.int 2)]) (st' := [.int (-1), .int 2]) (h' := h113) (P := True) 3 rfl rfl trivial ?_
              refine wp_br (P := True) (c := ¬ (2 : Int32) = (-1)) (t := 79) (st' := []) rfl rfl trivial (fun c167 => ?_) (fun c167 => ?_)
              · skip
                have H := H.2 c167
                refine wp_steps (i' := 83) (ls' := [some (.ref 381), some (.int 2)]) (st' := [.int (mx_i h113 387 2)]) (h' := h113) (P := ((mxT 381).1 = 11 ∧ mxG h113) ∧ (((mxT 387).1 = 50 ∧ mxG h113) ∧ vp_in 2 (mxT 387).2) ∧ True) 4 rfl rfl ⟨⟨(congrArg Prod.fst sT_381), G115⟩, (cA sT_387 G115 (vpl rfl)), trivial⟩ ?_
                exact wp_end (o := .inl (some (.int (mx_i h113 387 2)))) (h' := h113) (P := True) rfl rfl trivial H
              · have c167 := Decidable.of_not_not c167
                have H := H.1 c167
                refine wp_steps (i' := 76) (ls' := [some (.ref 381), some (.int 2)]) (st' := [.int (mx_i h113 381 11), .ref 381]) (h' := h113) (P := ((mxT 381).1 = 11 ∧ mxG h113) ∧ True) 3 rfl rfl ⟨⟨(congrArg Prod.fst sT_381), G115⟩, trivial⟩ ?_
                refine wp_call (b := false) (y' := 213) (as := [.ref 381, .int (mx_i h113 381 11)]) (rest := []) (P := ((mxT 381).1 = mxRc 213 ∧ mxG h113)) rfl (by with_unfolding_all rfl) ⟨(congrArg Prod.fst sT_381), G115⟩ (Nat.le_of_ble_eq_true rfl) (sp_213 G115 ?_)
                show mx_wp (d + 5) 228 77 [some (.ref 381), some (.int 2)] [] (W_213 h113 (mx_i h113 381 11)) Q
                obtain ⟨h168, e169⟩ : ∃ z9, z9 = W_213 h113 (mx_i h113 381 11) := ⟨_, rfl⟩
                rw [← e169]
                have H := H h168 e169
                have K171 : mxK h113 h168 := e169 ▸ KW_213
                have G170 : mxG h168 := mxK_G K171 G115
                refine wp_steps (i' := 78) (ls' := [some (.ref 381), some (.int 2)]) (st' := [.int 0]) (h' := h168) (P := True) 1 rfl rfl trivial ?_
                exact wp_end (o := .inl (some (.int 0))) (h' := h168) (P := True) rfl rfl trivial H
          · skip
            have H := H.2 c109
            refine wp_steps (i' := 37) (ls' := [some (.ref 381), none]) (st' := [.int 1]) (h' := h106) (P := True) 1 rfl rfl trivial ?_
            refine wp_J (j := 69) (st' := [.int 1]) rfl rfl ?_
            refine wp_steps (i' := 72) (ls' := [some (.ref 381), some (.int 1)]) (st' := [.int (-1), .int 1]) (h' := h106) (P := True) 3 rfl rfl trivial ?_
            refine wp_br (P := True) (c := ¬ (1 : Int32) = (-1)) (t := 79) (st' := []) rfl rfl trivial (fun c172 => ?_) (fun c172 => ?_)
            · skip
              have H := H.2 c172
              refine wp_steps (i' := 83) (ls' := [some (.ref 381), some (.int 1)]) (st' := [.int (mx_i h106 387 1)]) (h' := h106) (P := ((mxT 381).1 = 11 ∧ mxG h106) ∧ (((mxT 387).1 = 50 ∧ mxG h106) ∧ vp_in 1 (mxT 387).2) ∧ True) 4 rfl rfl ⟨⟨(congrArg Prod.fst sT_381), G108⟩, (cA sT_387 G108 (vpl rfl)), trivial⟩ ?_
              exact wp_end (o := .inl (some (.int (mx_i h106 387 1)))) (h' := h106) (P := True) rfl rfl trivial H
            · have c172 := Decidable.of_not_not c172
              have H := H.1 c172
              refine wp_steps (i' := 76) (ls' := [some (.ref 381), some (.int 1)]) (st' := [.int (mx_i h106 381 11), .ref 381]) (h' := h106) (P := ((mxT 381).1 = 11 ∧ mxG h106) ∧ True) 3 rfl rfl ⟨⟨(congrArg Prod.fst sT_381), G108⟩, trivial⟩ ?_
              refine wp_call (b := false) (y' := 213) (as := [.ref 381, .int (mx_i h106 381 11)]) (rest := []) (P := ((mxT 381).1 = mxRc 213 ∧ mxG h106)) rfl (by with_unfolding_all rfl) ⟨(congrArg Prod.fst sT_381), G108⟩ (Nat.le_of_ble_eq_true rfl) (sp_213 G108 ?_)
              show mx_wp (d + 5) 228 77 [some (.ref 381), some (.int 1)] [] (W_213 h106 (mx_i h106 381 11)) Q
              obtain ⟨h173, e174⟩ : ∃ z9, z9 = W_213 h106 (mx_i h106 381 11) := ⟨_, rfl⟩
              rw [← e174]
              have H := H h173 e174
              have K176 : mxK h106 h173 := e174 ▸ KW_213
              have G175 : mxG h173 := mxK_G K176 G108
              refine wp_steps (i' := 78) (ls' := [some (.ref 381), some (.int 1)]) (st' := [.int 0]) (h' := h173) (P := True) 1 rfl rfl trivial ?_
              exact wp_end (o := .inl (some (.int 0))) (h' := h173) (P := True) rfl rfl trivial H
        · skip
          have H := H.2 c102
          refine wp_steps (i' := 31) (ls' := [some (.ref 381), none]) (st' := [.int 0]) (h' := h99) (P := True) 1 rfl rfl trivial ?_
          refine wp_J (j := 69) (st' := [.int 0]) rfl rfl ?_
          refine wp_steps (i' := 72) (ls' := [some (.ref 381), some (.int 0)]) (st' := [.int (-1), .int 0]) (h' := h99) (P := True) 3 rfl rfl trivial ?_
          refine wp_br (P := True) (c := ¬ (0 : Int32) = (-1)) (t := 79) (st' := []) rfl rfl trivial (fun c177 => ?_) (fun c177 => ?_)
          · skip
            have H := H.2 c177
            refine wp_steps (i' := 83) (ls' := [some (.ref 381), some (.int 0)]) (st' := [.int (mx_i h99 387 0)]) (h' := h99) (P := ((mxT 381).1 = 11 ∧ mxG h99) ∧ (((mxT 387).1 = 50 ∧ mxG h99) ∧ vp_in 0 (mxT 387).2) ∧ True) 4 rfl rfl ⟨⟨(congrArg Prod.fst sT_381), G101⟩, (cA sT_387 G101 (vpl rfl)), trivial⟩ ?_
            exact wp_end (o := .inl (some (.int (mx_i h99 387 0)))) (h' := h99) (P := True) rfl rfl trivial H
          · have c177 := Decidable.of_not_not c177
            have H := H.1 c177
            refine wp_steps (i' := 76) (ls' := [some (.ref 381), some (.int 0)]) (st' := [.int (mx_i h99 381 11), .ref 381]) (h' := h99) (P := ((mxT 381).1 = 11 ∧ mxG h99) ∧ True) 3 rfl rfl ⟨⟨(congrArg Prod.fst sT_381), G101⟩, trivial⟩ ?_
            refine wp_call (b := false) (y' := 213) (as := [.ref 381, .int (mx_i h99 381 11)]) (rest := []) (P := ((mxT 381).1 = mxRc 213 ∧ mxG h99)) rfl (by with_unfolding_all rfl) ⟨(congrArg Prod.fst sT_381), G101⟩ (Nat.le_of_ble_eq_true rfl) (sp_213 G101 ?_)
            show mx_wp (d + 5) 228 77 [some (.ref 381), some (.int 0)] [] (W_213 h99 (mx_i h99 381 11)) Q
            obtain ⟨h178, e179⟩ : ∃ z9, z9 = W_213 h99 (mx_i h99 381 11) := ⟨_, rfl⟩
            rw [← e179]
            have H := H h178 e179
            have K181 : mxK h99 h178 := e179 ▸ KW_213
            have G180 : mxG h178 := mxK_G K181 G101
            refine wp_steps (i' := 78) (ls' := [some (.ref 381), some (.int 0)]) (st' := [.int 0]) (h' := h178) (P := True) 1 rfl rfl trivial ?_
            exact wp_end (o := .inl (some (.int 0))) (h' := h178) (P := True) rfl rfl trivial H
      · skip
        have H := H.2 c95
        refine wp_steps (i' := 24) (ls' := [some (.ref 381), none]) (st' := [.int 999, .int 0, .ref 381]) (h' := h4) (P := True) 3 rfl rfl trivial ?_
        obtain ⟨o182, H⟩ := H
        refine wp_call (b := false) (y' := 215) (as := [.ref 381, .int 0, .int 999]) (rest := []) (P := ((mxT 381).1 = mxRc 215 ∧ mxG h4)) rfl (by with_unfolding_all rfl) ⟨(congrArg Prod.fst sT_381), G6⟩ (Nat.le_of_ble_eq_true rfl) (sp_215 G6 o182 ?_)
        intro x183 h184 p185
        show mx_wp (d + 5) 228 25 [some (.ref 381), none] [.int x183] h184 Q
        have H := H x183 h184 p185
        have G186 : mxG h184 := mxK_G p185.1 G6
        exact wp_end (o := .inl (some (.int x183))) (h' := h184) (P := True) rfl rfl trivial H
  · skip
    have H := H.2 c1
    refine wp_steps (i' := 5) (ls' := [some (.ref 381), none]) (st' := [.int 0]) (h' := h) (P := True) 1 rfl rfl trivial ?_
    exact wp_end (o := .inl (some (.int 0))) (h' := h) (P := True) rfl rfl trivial H
