/-! 31: StoneBacks$LawText.readLine(LStoneBacks$Tape;LStoneBacks$Law;)Z -/
set_option maxRecDepth 8000 in
theorem tr_31_0 {d : Nat} {h : mxH} {Q : mxO → mxH → Prop} {b : Nat} (G : mxG h) (hVb : (mxT b).1 = 3) (H : (okC h ∧ (∀ (x2 : Int32) (h3 : mxH), p32 h x2 h3 → ((x2 = (-1) → Q (.inl (some (.int 0))) h3) ∧ (¬ x2 = (-1) → (okC h3 ∧ (∀ (x8 : Int32) (h9 : mxH), p100 (0 : Int32) (99 : Int32) h3 x8 h9 → ((x8 = (-1) → Q (.inl (some (.int 0))) h9) ∧ (¬ x8 = (-1) → (cB (mx_i h9 b 1) 11 ∧ (∀ (h15 : mxH), p22 b x2 x8 h9 h15 → (okC h15 ∧ (3 ≤ 16 ∧ 16 < 29) ∧ (∀ (x20 : Int32) (h21 : mxH), p96 16 h15 x20 h21 → ((x20 = 0 → Q (.inl (some (.int 1))) h21) ∧ (¬ x20 = 0 → ((∃ a, atC h21 b a ∧ 1 ≤ a.2.2.1) ∧ (∀ (x26 : Int32) (h27 : mxH), p33 b h21 x26 h27 → (∀ (v30 : Int32), v30 = ((if x26 = 0 then 0 else 1) : Int32) → Q (.inl (some (.int v30))) h27)))))))))))))))))) : mx_wp (d + 5) 31 0 (mx_fr 31 [.ref 107, .ref 101, .ref b]) [] h Q := by
  show mx_wp (d + 5) 31 0 [some (.ref 107), some (.ref 101), some (.ref b), none, none] [] h Q
  refine wp_steps (i' := 1) (ls' := [some (.ref 107), some (.ref 101), some (.ref b), none, none]) (st' := [.ref 101]) (h' := h) (P := True) 1 rfl rfl trivial ?_
  obtain ⟨o1, H⟩ := H
  refine wp_call (b := false) (y' := 32) (as := [.ref 101]) (rest := []) (P := True) rfl (by with_unfolding_all rfl) trivial (Nat.le_of_ble_eq_true rfl) (spm_32 G o1 ?_)
  intro x2 h3 p4
  show mx_wp (d + 5) 31 2 [some (.ref 107), some (.ref 101), some (.ref b), none, none] [.int x2] h3 Q
  have H := H x2 h3 p4
  have G5 : mxG h3 := mxK_G (mvC_K p4.1) G
  refine wp_steps (i' := 5) (ls' := [some (.ref 107), some (.ref 101), some (.ref b), some (.int x2), none]) (st' := [.int (-1), .int x2]) (h' := h3) (P := True) 3 rfl rfl trivial ?_
  refine wp_br (P := True) (c := ¬ x2 = (-1)) (t := 8) (st' := []) rfl rfl trivial (fun c6 => ?_) (fun c6 => ?_)
  · skip
    have H := H.2 c6
    refine wp_steps (i' := 11) (ls' := [some (.ref 107), some (.ref 101), some (.ref b), some (.int x2), none]) (st' := [.int 99, .int 0, .ref 101]) (h' := h3) (P := True) 3 rfl rfl trivial ?_
    obtain ⟨o7, H⟩ := H
    refine wp_call (b := false) (y' := 100) (as := [.ref 101, .int 0, .int 99]) (rest := []) (P := ((mxT 101).1 = mxRc 100 ∧ mxG h3)) rfl (by with_unfolding_all rfl) ⟨(congrArg Prod.fst sT_101), G5⟩ (Nat.le_of_ble_eq_true rfl) (spm_100 G5 o7 ?_)
    intro x8 h9 p10
    show mx_wp (d + 5) 31 12 [some (.ref 107), some (.ref 101), some (.ref b), some (.int x2), none] [.int x8] h9 Q
    have H := H x8 h9 p10
    have G11 : mxG h9 := mxK_G (mvC_K p10.1) G5
    refine wp_steps (i' := 15) (ls' := [some (.ref 107), some (.ref 101), some (.ref b), some (.int x2), some (.int x8)]) (st' := [.int (-1), .int x8]) (h' := h9) (P := True) 3 rfl rfl trivial ?_
    refine wp_br (P := True) (c := ¬ x8 = (-1)) (t := 18) (st' := []) rfl rfl trivial (fun c12 => ?_) (fun c12 => ?_)
    · skip
      have H := H.2 c12
      refine wp_steps (i' := 21) (ls' := [some (.ref 107), some (.ref 101), some (.ref b), some (.int x2), some (.int x8)]) (st' := [.int x8, .int x2, .ref b]) (h' := h9) (P := True) 3 rfl rfl trivial ?_
      obtain ⟨o13, H⟩ := H
      refine wp_call (b := false) (y' := 22) (as := [.ref b, .int x2, .int x8]) (rest := []) (P := ((mxT b).1 = mxRc 22 ∧ mxG h9)) rfl (by with_unfolding_all rfl) ⟨(congrArg Prod.fst (sL_0 hVb)), G11⟩ (Nat.le_of_ble_eq_true rfl) (spm_22 G11 hVb o13 ?_)
      intro h15 p16
      show mx_wp (d + 5) 31 22 [some (.ref 107), some (.ref 101), some (.ref b), some (.int x2), some (.int x8)] [] h15 Q
      have H := H h15 p16
      have G17 : mxG h15 := mxU_G p16.1 G11
      refine wp_steps (i' := 24) (ls' := [some (.ref 107), some (.ref 101), some (.ref b), some (.int x2), some (.int x8)]) (st' := [.ref 16, .ref 101]) (h' := h15) (P := True) 2 rfl rfl trivial ?_
      obtain ⟨o18, o19, H⟩ := H
      refine wp_call (b := false) (y' := 96) (as := [.ref 101, .ref 16]) (rest := []) (P := ((mxT 101).1 = mxRc 96 ∧ mxG h15)) rfl (by with_unfolding_all rfl) ⟨(congrArg Prod.fst sT_101), G17⟩ (Nat.le_of_ble_eq_true rfl) (spm_96 G17 o18 o19 ?_)
      intro x20 h21 p22
      show mx_wp (d + 5) 31 25 [some (.ref 107), some (.ref 101), some (.ref b), some (.int x2), some (.int x8)] [.int x20] h21 Q
      have H := H x20 h21 p22
      have G23 : mxG h21 := mxK_G (mvC_K p22.1) G17
      refine wp_br (P := True) (c := x20 = 0) (t := 31) (st' := []) rfl rfl trivial (fun c24 => ?_) (fun c24 => ?_)
      · skip
        have H := H.1 c24
        refine wp_steps (i' := 32) (ls' := [some (.ref 107), some (.ref 101), some (.ref b), some (.int x2), some (.int x8)]) (st' := [.int 1]) (h' := h21) (P := True) 1 rfl rfl trivial ?_
        refine wp_J (j := 34) (st' := [.int 1]) rfl rfl ?_
        exact wp_end (o := .inl (some (.int 1))) (h' := h21) (P := ((1 : Int32) = 0 ∨ (1 : Int32) = 1)) rfl rfl (Or.inr rfl) H
      · skip
        have H := H.2 c24
        refine wp_steps (i' := 29) (ls' := [some (.ref 107), some (.ref 101), some (.ref b), some (.int x2), some (.int x8)]) (st' := [.ref b, .ref 101, .ref 107]) (h' := h21) (P := True) 3 rfl rfl trivial ?_
        obtain ⟨o25, H⟩ := H
        refine wp_call (b := false) (y' := 33) (as := [.ref 107, .ref 101, .ref b]) (rest := []) (P := ((mxT 107).1 = mxRc 33 ∧ mxG h21)) rfl (by with_unfolding_all rfl) ⟨(congrArg Prod.fst sT_107), G23⟩ (Nat.le_of_ble_eq_true rfl) (sp_33 G23 hVb o25 ?_)
        intro x26 h27 p28
        show mx_wp (d + 5) 31 30 [some (.ref 107), some (.ref 101), some (.ref b), some (.int x2), some (.int x8)] [.int x26] h27 Q
        have H := H x26 h27 p28
        have G29 : mxG h27 := mxU_G p28.1.1 G23
        have J : ∀ (v30 : Int32) (ev30 : v30 = ((if x26 = 0 then 0 else 1) : Int32)), mx_wp (d + 5) 31 34 [some (.ref 107), some (.ref 101), some (.ref b), some (.int x2), some (.int x8)] [.int v30] h27 Q := by
          intro v30 ev30
          have H := H v30 ev30
          exact wp_end (o := .inl (some (.int v30))) (h' := h27) (P := (v30 = 0 ∨ v30 = 1)) rfl rfl (b01 ev30 (by repeat' (first | exact Or.inl rfl | exact Or.inr rfl | split))) H
        refine wp_br (P := True) (c := x26 = 0) (t := 33) (st' := []) rfl rfl trivial (fun c31 => ?_) (fun c31 => ?_)
        · skip
          refine wp_steps (i' := 34) (ls' := [some (.ref 107), some (.ref 101), some (.ref b), some (.int x2), some (.int x8)]) (st' := [.int 0]) (h' := h27) (P := True) 1 rfl rfl trivial ?_
          exact J _ (by rw [if_pos c31])
        · skip
          refine wp_steps (i' := 32) (ls' := [some (.ref 107), some (.ref 101), some (.ref b), some (.int x2), some (.int x8)]) (st' := [.int 1]) (h' := h27) (P := True) 1 rfl rfl trivial ?_
          refine wp_J (j := 34) (st' := [.int 1]) rfl rfl ?_
          exact J _ (by rw [if_neg c31])
    · have c12 := Decidable.of_not_not c12
      have H := H.1 c12
      refine wp_steps (i' := 17) (ls' := [some (.ref 107), some (.ref 101), some (.ref b), some (.int x2), some (.int x8)]) (st' := [.int 0]) (h' := h9) (P := True) 1 rfl rfl trivial ?_
      exact wp_end (o := .inl (some (.int 0))) (h' := h9) (P := ((0 : Int32) = 0 ∨ (0 : Int32) = 1)) rfl rfl (Or.inl rfl) H
  · have c6 := Decidable.of_not_not c6
    have H := H.1 c6
    refine wp_steps (i' := 7) (ls' := [some (.ref 107), some (.ref 101), some (.ref b), some (.int x2), none]) (st' := [.int 0]) (h' := h3) (P := True) 1 rfl rfl trivial ?_
    exact wp_end (o := .inl (some (.int 0))) (h' := h3) (P := ((0 : Int32) = 0 ∨ (0 : Int32) = 1)) rfl rfl (Or.inl rfl) H
