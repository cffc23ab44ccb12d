/-! 30: StoneBacks$LawText.readLines(LStoneBacks$Tape;LStoneBacks$Law;)Z -/
def H_30_9 (d : Nat) (h : mxH) (b : Nat) (i3 : Int32) (Q : mxO → mxH → Prop) : Prop := mx_wp d 30 9 [some (.ref 107), some (.ref 101), some (.ref b), some (.int i3)] [] h Q
set_option maxRecDepth 8000 in
theorem tr_30_0 {d : Nat} {h : mxH} {Q : mxO → mxH → Prop} {b : Nat} (G : mxG h) (hVb : (mxT b).1 = 3) (H : (∀ h1, h1 = W_21 h b → (vp_in (mx_i h1 101 3) 401 ∧ (((V_93 h1) = 0 → H_30_9 (d + 6) h1 b 0 Q) ∧ (¬ (V_93 h1) = 0 → Q (.inl (some (.int 1))) h1))))) : mx_wp (d + 6) 30 0 (mx_fr 30 [.ref 107, .ref 101, .ref b]) [] h Q := by
  show mx_wp (d + 6) 30 0 [some (.ref 107), some (.ref 101), some (.ref b), none] [] h Q
  refine wp_steps (i' := 1) (ls' := [some (.ref 107), some (.ref 101), some (.ref b), none]) (st' := [.ref b]) (h' := h) (P := True) 1 rfl rfl trivial ?_
  refine wp_call (b := false) (y' := 21) (as := [.ref b]) (rest := []) (P := ((mxT b).1 = mxRc 21 ∧ mxG h)) rfl (by with_unfolding_all rfl) ⟨(congrArg Prod.fst (sL_0 hVb)), G⟩ (Nat.le_of_ble_eq_true rfl) (sp_21 G hVb ?_)
  show mx_wp (d + 6) 30 2 [some (.ref 107), some (.ref 101), some (.ref b), none] [] (W_21 h b) Q
  obtain ⟨h1, e2⟩ : ∃ z9, z9 = W_21 h b := ⟨_, rfl⟩
  rw [← e2]
  have H := H h1 e2
  have K4 : mxK h h1 := e2 ▸ KW_21
  have G3 : mxG h1 := mxK_G K4 G
  refine wp_steps (i' := 3) (ls' := [some (.ref 107), some (.ref 101), some (.ref b), none]) (st' := [.ref 101]) (h' := h1) (P := True) 1 rfl rfl trivial ?_
  obtain ⟨o5, H⟩ := H
  refine wp_call (b := false) (y' := 93) (as := [.ref 101]) (rest := []) (P := ((mxT 101).1 = mxRc 93 ∧ mxG h1)) rfl (by with_unfolding_all rfl) ⟨(congrArg Prod.fst sT_101), G3⟩ (Nat.le_of_ble_eq_true rfl) (sp_93 G3 o5 ?_)
  show mx_wp (d + 6) 30 4 [some (.ref 107), some (.ref 101), some (.ref b), none] [.int (V_93 h1)] h1 Q
  refine wp_br (P := True) (c := (V_93 h1) = 0) (t := 7) (st' := []) rfl rfl trivial (fun c6 => ?_) (fun c6 => ?_)
  · skip
    have H := H.1 c6
    refine wp_steps (i' := 9) (ls' := [some (.ref 107), some (.ref 101), some (.ref b), some (.int 0)]) (st' := []) (h' := h1) (P := True) 2 rfl rfl trivial ?_
    exact H 
  · skip
    have H := H.2 c6
    refine wp_steps (i' := 6) (ls' := [some (.ref 107), some (.ref 101), some (.ref b), none]) (st' := [.int 1]) (h' := h1) (P := True) 1 rfl rfl trivial ?_
    exact wp_end (o := .inl (some (.int 1))) (h' := h1) (P := ((1 : Int32) = 0 ∨ (1 : Int32) = 1)) rfl rfl (Or.inr rfl) H
set_option maxRecDepth 8000 in
theorem tr_30_9 {d : Nat} {h : mxH} {Q : mxO → mxH → Prop} {b : Nat} {i3 : Int32} (G : mxG h) (hVb : (mxT b).1 = 3) (H : ((i3 < 12 → ((∃ a, atL h b a) ∧ (∀ (x3 : Int32) (h4 : mxH), p31 b h x3 h4 → ((x3 = 0 → Q (.inl (some (.int 0))) h4) ∧ (¬ x3 = 0 → (vp_in (mx_i h4 101 3) 401 ∧ (((V_93 h4) = 0 → (okC h4 ∧ (∀ (x11 : Int32) (h12 : mxH), p98 (59 : Int32) h4 x11 h12 → ((x11 = 0 → Q (.inl (some (.int 0))) h12) ∧ (¬ x11 = 0 → H_30_9 (d + 6) h12 b (i3 + 1) Q))))) ∧ (¬ (V_93 h4) = 0 → Q (.inl (some (.int 1))) h4)))))))) ∧ (¬ i3 < 12 → Q (.inl (some (.int 0))) h))) : H_30_9 (d + 6) h b i3 Q := by
  show mx_wp (d + 6) 30 9 [some (.ref 107), some (.ref 101), some (.ref b), some (.int i3)] [] h Q
  refine wp_steps (i' := 11) (ls' := [some (.ref 107), some (.ref 101), some (.ref b), some (.int i3)]) (st' := [.int 12, .int i3]) (h' := h) (P := True) 2 rfl rfl trivial ?_
  refine wp_br (P := True) (c := 12 ≤ i3) (t := 32) (st' := []) rfl rfl trivial (fun c1 => ?_) (fun c1 => ?_)
  · have c1 := Int32.not_lt.mpr c1
    have H := H.2 c1
    refine wp_steps (i' := 33) (ls' := [some (.ref 107), some (.ref 101), some (.ref b), some (.int i3)]) (st' := [.int 0]) (h' := h) (P := True) 1 rfl rfl trivial ?_
    exact wp_end (o := .inl (some (.int 0))) (h' := h) (P := ((0 : Int32) = 0 ∨ (0 : Int32) = 1)) rfl rfl (Or.inl rfl) H
  · have c1 := Int32.not_le.mp c1
    have H := H.1 c1
    refine wp_steps (i' := 15) (ls' := [some (.ref 107), some (.ref 101), some (.ref b), some (.int i3)]) (st' := [.ref b, .ref 101, .ref 107]) (h' := h) (P := True) 3 rfl rfl trivial ?_
    obtain ⟨o2, H⟩ := H
    refine wp_call (b := false) (y' := 31) (as := [.ref 107, .ref 101, .ref b]) (rest := []) (P := ((mxT 107).1 = mxRc 31 ∧ mxG h)) rfl (by with_unfolding_all rfl) ⟨(congrArg Prod.fst sT_107), G⟩ (Nat.le_of_ble_eq_true rfl) (sp_31 G hVb o2 ?_)
    intro x3 h4 p5
    show mx_wp (d + 6) 30 16 [some (.ref 107), some (.ref 101), some (.ref b), some (.int i3)] [.int x3] h4 Q
    have H := H x3 h4 p5
    have G6 : mxG h4 := mxU_G p5.1.1 G
    refine wp_br (P := True) (c := ¬ x3 = 0) (t := 19) (st' := []) rfl rfl trivial (fun c7 => ?_) (fun c7 => ?_)
    · skip
      have H := H.2 c7
      refine wp_steps (i' := 20) (ls' := [some (.ref 107), some (.ref 101), some (.ref b), some (.int i3)]) (st' := [.ref 101]) (h' := h4) (P := True) 1 rfl rfl trivial ?_
      obtain ⟨o8, H⟩ := H
      refine wp_call (b := false) (y' := 93) (as := [.ref 101]) (rest := []) (P := ((mxT 101).1 = mxRc 93 ∧ mxG h4)) rfl (by with_unfolding_all rfl) ⟨(congrArg Prod.fst sT_101), G6⟩ (Nat.le_of_ble_eq_true rfl) (sp_93 G6 o8 ?_)
      show mx_wp (d + 6) 30 21 [some (.ref 107), some (.ref 101), some (.ref b), some (.int i3)] [.int (V_93 h4)] h4 Q
      refine wp_br (P := True) (c := (V_93 h4) = 0) (t := 24) (st' := []) rfl rfl trivial (fun c9 => ?_) (fun c9 => ?_)
      · skip
        have H := H.1 c9
        refine wp_steps (i' := 26) (ls' := [some (.ref 107), some (.ref 101), some (.ref b), some (.int i3)]) (st' := [.int 59, .ref 101]) (h' := h4) (P := True) 2 rfl rfl trivial ?_
        obtain ⟨o10, H⟩ := H
        refine wp_call (b := false) (y' := 98) (as := [.ref 101, .int 59]) (rest := []) (P := ((mxT 101).1 = mxRc 98 ∧ mxG h4)) rfl (by with_unfolding_all rfl) ⟨(congrArg Prod.fst sT_101), G6⟩ (Nat.le_of_ble_eq_true rfl) (spm_98 G6 o10 ?_)
        intro x11 h12 p13
        show mx_wp (d + 6) 30 27 [some (.ref 107), some (.ref 101), some (.ref b), some (.int i3)] [.int x11] h12 Q
        have H := H x11 h12 p13
        have G14 : mxG h12 := mxK_G (mvC_K p13.1) G6
        refine wp_br (P := True) (c := ¬ x11 = 0) (t := 30) (st' := []) rfl rfl trivial (fun c15 => ?_) (fun c15 => ?_)
        · skip
          have H := H.2 c15
          refine wp_steps (i' := 31) (ls' := [some (.ref 107), some (.ref 101), some (.ref b), some (.int (i3 + 1))]) (st' := []) (h' := h12) (P := True) 1 rfl rfl trivial ?_
          refine wp_J (j := 9) (st' := []) rfl rfl ?_
          exact H 
        · have c15 := Decidable.of_not_not c15
          have H := H.1 c15
          refine wp_steps (i' := 29) (ls' := [some (.ref 107), some (.ref 101), some (.ref b), some (.int i3)]) (st' := [.int 0]) (h' := h12) (P := True) 1 rfl rfl trivial ?_
          exact wp_end (o := .inl (some (.int 0))) (h' := h12) (P := ((0 : Int32) = 0 ∨ (0 : Int32) = 1)) rfl rfl (Or.inl rfl) H
      · skip
        have H := H.2 c9
        refine wp_steps (i' := 23) (ls' := [some (.ref 107), some (.ref 101), some (.ref b), some (.int i3)]) (st' := [.int 1]) (h' := h4) (P := True) 1 rfl rfl trivial ?_
        exact wp_end (o := .inl (some (.int 1))) (h' := h4) (P := ((1 : Int32) = 0 ∨ (1 : Int32) = 1)) rfl rfl (Or.inr rfl) H
    · have c7 := Decidable.of_not_not c7
      have H := H.1 c7
      refine wp_steps (i' := 18) (ls' := [some (.ref 107), some (.ref 101), some (.ref b), some (.int i3)]) (st' := [.int 0]) (h' := h4) (P := True) 1 rfl rfl trivial ?_
      exact wp_end (o := .inl (some (.int 0))) (h' := h4) (P := ((0 : Int32) = 0 ∨ (0 : Int32) = 1)) rfl rfl (Or.inl rfl) H
