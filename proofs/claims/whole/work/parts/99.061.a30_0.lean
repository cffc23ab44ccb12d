/-! 122: StoneBacks$ValleyText.readLines(LStoneBacks$Tape;LStoneBacks$Valley;)Z -/
def H_122_7 (d : Nat) (h : mxH) (a : Nat) (i2 : Int32) (Q : mxO → mxH → Prop) : Prop := mx_wp d 122 7 [some (.ref 101), some (.ref a), some (.int i2)] [] h Q
set_option maxRecDepth 8000 in
theorem tr_122_0 {d : Nat} {h : mxH} {Q : mxO → mxH → Prop} {a : Nat} (G : mxG h) (hVa : (mxT a).1 = 9) (H : (vp_in (mx_i h 101 3) 401 ∧ (((V_93 h) = 0 → H_122_7 (d + 5) h a 0 Q) ∧ (¬ (V_93 h) = 0 → Q (.inl (some (.int 1))) h)))) : mx_wp (d + 5) 122 0 (mx_fr 122 [.ref 101, .ref a]) [] h Q := by
  show mx_wp (d + 5) 122 0 [some (.ref 101), some (.ref a), none] [] h Q
  refine wp_steps (i' := 1) (ls' := [some (.ref 101), some (.ref a), none]) (st' := [.ref 101]) (h' := h) (P := True) 1 rfl rfl trivial ?_
  obtain ⟨o1, H⟩ := H
  refine wp_call (b := false) (y' := 93) (as := [.ref 101]) (rest := []) (P := ((mxT 101).1 = mxRc 93 ∧ mxG h)) rfl (by with_unfolding_all rfl) ⟨(congrArg Prod.fst sT_101), G⟩ (Nat.le_of_ble_eq_true rfl) (sp_93 G o1 ?_)
  show mx_wp (d + 5) 122 2 [some (.ref 101), some (.ref a), none] [.int (V_93 h)] h Q
  refine wp_br (P := True) (c := (V_93 h) = 0) (t := 5) (st' := []) rfl rfl trivial (fun c2 => ?_) (fun c2 => ?_)
  · skip
    have H := H.1 c2
    refine wp_steps (i' := 7) (ls' := [some (.ref 101), some (.ref a), some (.int 0)]) (st' := []) (h' := h) (P := True) 2 rfl rfl trivial ?_
    exact H 
  · skip
    have H := H.2 c2
    refine wp_steps (i' := 4) (ls' := [some (.ref 101), some (.ref a), none]) (st' := [.int 1]) (h' := h) (P := True) 1 rfl rfl trivial ?_
    exact wp_end (o := .inl (some (.int 1))) (h' := h) (P := ((1 : Int32) = 0 ∨ (1 : Int32) = 1)) rfl rfl (Or.inr rfl) H
set_option maxRecDepth 8000 in
theorem tr_122_7 {d : Nat} {h : mxH} {Q : mxO → mxH → Prop} {a : Nat} {i2 : Int32} (G : mxG h) (hVa : (mxT a).1 = 9) (H : ((i2 < 14 → (okV h a ∧ (∀ (x3 : Int32) (h4 : mxH), pV vLn a h x3 h4 → ((x3 = 0 → Q (.inl (some (.int 0))) h4) ∧ (¬ x3 = 0 → (vp_in (mx_i h4 101 3) 401 ∧ (((V_93 h4) = 0 → (okC h4 ∧ (∀ (x11 : Int32) (h12 : mxH), p98 (59 : Int32) h4 x11 h12 → ((x11 = 0 → Q (.inl (some (.int 0))) h12) ∧ (¬ x11 = 0 → H_122_7 (d + 5) h12 a (i2 + 1) Q))))) ∧ (¬ (V_93 h4) = 0 → Q (.inl (some (.int 1))) h4)))))))) ∧ (¬ i2 < 14 → Q (.inl (some (.int 0))) h))) : H_122_7 (d + 5) h a i2 Q := by
  show mx_wp (d + 5) 122 7 [some (.ref 101), some (.ref a), some (.int i2)] [] h Q
  refine wp_steps (i' := 9) (ls' := [some (.ref 101), some (.ref a), some (.int i2)]) (st' := [.int 14, .int i2]) (h' := h) (P := True) 2 rfl rfl trivial ?_
  refine wp_br (P := True) (c := 14 ≤ i2) (t := 29) (st' := []) rfl rfl trivial (fun c1 => ?_) (fun c1 => ?_)
  · have c1 := Int32.not_lt.mpr c1
    have H := H.2 c1
    refine wp_steps (i' := 30) (ls' := [some (.ref 101), some (.ref a), some (.int i2)]) (st' := [.int 0]) (h' := h) (P := True) 1 rfl rfl trivial ?_
    exact wp_end (o := .inl (some (.int 0))) (h' := h) (P := ((0 : Int32) = 0 ∨ (0 : Int32) = 1)) rfl rfl (Or.inl rfl) H
  · have c1 := Int32.not_le.mp c1
    have H := H.1 c1
    refine wp_steps (i' := 12) (ls' := [some (.ref 101), some (.ref a), some (.int i2)]) (st' := [.ref a, .ref 101]) (h' := h) (P := True) 2 rfl rfl trivial ?_
    obtain ⟨o2, H⟩ := H
    refine wp_call (b := false) (y' := 123) (as := [.ref 101, .ref a]) (rest := []) (P := True) rfl (by with_unfolding_all rfl) trivial (Nat.le_of_ble_eq_true rfl) (sp_123 G hVa o2 ?_)
    intro x3 h4 p5
    show mx_wp (d + 5) 122 13 [some (.ref 101), some (.ref a), some (.int i2)] [.int x3] h4 Q
    have H := H x3 h4 p5
    have G6 : mxG h4 := mxU_G p5.1.1 G
    refine wp_br (P := True) (c := ¬ x3 = 0) (t := 16) (st' := []) rfl rfl trivial (fun c7 => ?_) (fun c7 => ?_)
    · skip
      have H := H.2 c7
      refine wp_steps (i' := 17) (ls' := [some (.ref 101), some (.ref a), some (.int i2)]) (st' := [.ref 101]) (h' := h4) (P := True) 1 rfl rfl trivial ?_
      obtain ⟨o8, H⟩ := H
      refine wp_call (b := false) (y' := 93) (as := [.ref 101]) (rest := []) (P := ((mxT 101).1 = mxRc 93 ∧ mxG h4)) rfl (by with_unfolding_all rfl) ⟨(congrArg Prod.fst sT_101), G6⟩ (Nat.le_of_ble_eq_true rfl) (sp_93 G6 o8 ?_)
      show mx_wp (d + 5) 122 18 [some (.ref 101), some (.ref a), some (.int i2)] [.int (V_93 h4)] h4 Q
      refine wp_br (P := True) (c := (V_93 h4) = 0) (t := 21) (st' := []) rfl rfl trivial (fun c9 => ?_) (fun c9 => ?_)
      · skip
        have H := H.1 c9
        refine wp_steps (i' := 23) (ls' := [some (.ref 101), some (.ref a), some (.int i2)]) (st' := [.int 59, .ref 101]) (h' := h4) (P := True) 2 rfl rfl trivial ?_
        obtain ⟨o10, H⟩ := H
        refine wp_call (b := false) (y' := 98) (as := [.ref 101, .int 59]) (rest := []) (P := ((mxT 101).1 = mxRc 98 ∧ mxG h4)) rfl (by with_unfolding_all rfl) ⟨(congrArg Prod.fst sT_101), G6⟩ (Nat.le_of_ble_eq_true rfl) (spm_98 G6 o10 ?_)
        intro x11 h12 p13
        show mx_wp (d + 5) 122 24 [some (.ref 101), some (.ref a), some (.int i2)] [.int x11] h12 Q
        have H := H x11 h12 p13
        have G14 : mxG h12 := mxK_G (mvC_K p13.1) G6
        refine wp_br (P := True) (c := ¬ x11 = 0) (t := 27) (st' := []) rfl rfl trivial (fun c15 => ?_) (fun c15 => ?_)
        · skip
          have H := H.2 c15
          refine wp_steps (i' := 28) (ls' := [some (.ref 101), some (.ref a), some (.int (i2 + 1))]) (st' := []) (h' := h12) (P := True) 1 rfl rfl trivial ?_
          refine wp_J (j := 7) (st' := []) rfl rfl ?_
          exact H 
        · have c15 := Decidable.of_not_not c15
          have H := H.1 c15
          refine wp_steps (i' := 26) (ls' := [some (.ref 101), some (.ref a), some (.int i2)]) (st' := [.int 0]) (h' := h12) (P := True) 1 rfl rfl trivial ?_
          exact wp_end (o := .inl (some (.int 0))) (h' := h12) (P := ((0 : Int32) = 0 ∨ (0 : Int32) = 1)) rfl rfl (Or.inl rfl) H
      · skip
        have H := H.2 c9
        refine wp_steps (i' := 20) (ls' := [some (.ref 101), some (.ref a), some (.int i2)]) (st' := [.int 1]) (h' := h4) (P := True) 1 rfl rfl trivial ?_
        exact wp_end (o := .inl (some (.int 1))) (h' := h4) (P := ((1 : Int32) = 0 ∨ (1 : Int32) = 1)) rfl rfl (Or.inr rfl) H
    · have c7 := Decidable.of_not_not c7
      have H := H.1 c7
      refine wp_steps (i' := 15) (ls' := [some (.ref 101), some (.ref a), some (.int i2)]) (st' := [.int 0]) (h' := h4) (P := True) 1 rfl rfl trivial ?_
      exact wp_end (o := .inl (some (.int 0))) (h' := h4) (P := ((0 : Int32) = 0 ∨ (0 : Int32) = 1)) rfl rfl (Or.inl rfl) H
