/-! 36: StoneBacks$LawText.readSum(LStoneBacks$Tape;LStoneBacks$Law;)Z -/
def H_36_2 (d : Nat) (h : mxH) (b : Nat) (i2 : Int32) (Q : mxO → mxH → Prop) : Prop := ∀ (w3 : Option Value), mx_wp d 36 2 [some (.ref 101), some (.ref b), some (.int i2), w3] [] h Q
set_option maxRecDepth 8000 in
theorem tr_36_0 {d : Nat} {h : mxH} {Q : mxO → mxH → Prop} {b : Nat} (G : mxG h) (hVb : (mxT b).1 = 3) (H : H_36_2 (d + 2) h b 0 Q) : mx_wp (d + 2) 36 0 (mx_fr 36 [.ref 101, .ref b]) [] h Q := by
  show mx_wp (d + 2) 36 0 [some (.ref 101), some (.ref b), none, none] [] h Q
  refine wp_steps (i' := 2) (ls' := [some (.ref 101), some (.ref b), some (.int 0), none]) (st' := []) (h' := h) (P := True) 2 rfl rfl trivial ?_
  exact H _
set_option maxRecDepth 8000 in
theorem tr_36_2 {d : Nat} {h : mxH} {Q : mxO → mxH → Prop} {b : Nat} {i2 : Int32} (G : mxG h) (hVb : (mxT b).1 = 3) (H : ((i2 < 400 → (okC h ∧ (∀ (x3 : Int32) (h4 : mxH), p100 (0 : Int32) (999 : Int32) h x3 h4 → ((x3 = (-1) → (okC h4 ∧ (∀ (x33 : Int32) (h34 : mxH), p101 h4 x33 h34 → ((x33 = (-1) → Q (.inl (some (.int 0))) h34) ∧ (¬ x33 = (-1) → (cB (mx_i h34 b 2) 400 ∧ (∀ (h40 : mxH), p23 b x33 h34 h40 → ((0 < i2 → (cB (mx_i h40 b 2) 400 ∧ (∀ (h52 : mxH), p23 b (1010 : Int32) h40 h52 → (okC h52 ∧ (∀ (x56 : Int32) (h57 : mxH), p98 (43 : Int32) h52 x56 h57 → ((x56 = 0 → Q (.inl (some (.int 1))) h57) ∧ (¬ x56 = 0 → H_36_2 (d + 2) h57 b (i2 + 1) Q))))))) ∧ (¬ 0 < i2 → (okC h40 ∧ (∀ (x45 : Int32) (h46 : mxH), p98 (43 : Int32) h40 x45 h46 → ((x45 = 0 → Q (.inl (some (.int 1))) h46) ∧ (¬ x45 = 0 → H_36_2 (d + 2) h46 b (i2 + 1) Q))))))))))))) ∧ (¬ x3 = (-1) → ((x3 = (-1) → Q (.inl (some (.int 0))) h4) ∧ (¬ x3 = (-1) → (cB (mx_i h4 b 2) 400 ∧ (∀ (h11 : mxH), p23 b x3 h4 h11 → ((0 < i2 → (cB (mx_i h11 b 2) 400 ∧ (∀ (h23 : mxH), p23 b (1010 : Int32) h11 h23 → (okC h23 ∧ (∀ (x27 : Int32) (h28 : mxH), p98 (43 : Int32) h23 x27 h28 → ((x27 = 0 → Q (.inl (some (.int 1))) h28) ∧ (¬ x27 = 0 → H_36_2 (d + 2) h28 b (i2 + 1) Q))))))) ∧ (¬ 0 < i2 → (okC h11 ∧ (∀ (x16 : Int32) (h17 : mxH), p98 (43 : Int32) h11 x16 h17 → ((x16 = 0 → Q (.inl (some (.int 1))) h17) ∧ (¬ x16 = 0 → H_36_2 (d + 2) h17 b (i2 + 1) Q))))))))))))))) ∧ (¬ i2 < 400 → Q (.inl (some (.int 0))) h))) : H_36_2 (d + 2) h b i2 Q := by
  intro w3
  show mx_wp (d + 2) 36 2 [some (.ref 101), some (.ref b), some (.int i2), w3] [] h Q
  refine wp_steps (i' := 4) (ls' := [some (.ref 101), some (.ref b), some (.int i2), w3]) (st' := [.int 400, .int i2]) (h' := h) (P := True) 2 rfl rfl trivial ?_
  refine wp_br (P := True) (c := 400 ≤ i2) (t := 37) (st' := []) rfl rfl trivial (fun c1 => ?_) (fun c1 => ?_)
  · have c1 := Int32.not_lt.mpr c1
    have H := H.2 c1
    refine wp_steps (i' := 38) (ls' := [some (.ref 101), some (.ref b), some (.int i2), w3]) (st' := [.int 0]) (h' := h) (P := True) 1 rfl rfl trivial ?_
    exact wp_end (o := .inl (some (.int 0))) (h' := h) (P := ((0 : Int32) = 0 ∨ (0 : Int32) = 1)) rfl rfl (Or.inl rfl) H
  · have c1 := Int32.not_le.mp c1
    have H := H.1 c1
    refine wp_steps (i' := 8) (ls' := [some (.ref 101), some (.ref b), some (.int i2), w3]) (st' := [.int 999, .int 0, .ref 101]) (h' := h) (P := True) 3 rfl rfl trivial ?_
    obtain ⟨o2, H⟩ := H
    refine wp_call (b := false) (y' := 100) (as := [.ref 101, .int 0, .int 999]) (rest := []) (P := ((mxT 101).1 = mxRc 100 ∧ mxG h)) rfl (by with_unfolding_all rfl) ⟨(congrArg Prod.fst sT_101), G⟩ (Nat.le_of_ble_eq_true rfl) (spm_100 G o2 ?_)
    intro x3 h4 p5
    show mx_wp (d + 2) 36 9 [some (.ref 101), some (.ref b), some (.int i2), w3] [.int x3] h4 Q
    have H := H x3 h4 p5
    have G6 : mxG h4 := mxK_G (mvC_K p5.1) G
    refine wp_steps (i' := 12) (ls' := [some (.ref 101), some (.ref b), some (.int i2), some (.int x3)]) (st' := [.int (-1), .int x3]) (h' := h4) (P := True) 3 rfl rfl trivial ?_
    refine wp_br (P := True) (c := ¬ x3 = (-1)) (t := 16) (st' := []) rfl rfl trivial (fun c7 => ?_) (fun c7 => ?_)
    · skip
      have H := H.2 c7
      refine wp_steps (i' := 18) (ls' := [some (.ref 101), some (.ref b), some (.int i2), some (.int x3)]) (st' := [.int (-1), .int x3]) (h' := h4) (P := True) 2 rfl rfl trivial ?_
      refine wp_br (P := True) (c := ¬ x3 = (-1)) (t := 21) (st' := []) rfl rfl trivial (fun c8 => ?_) (fun c8 => ?_)
      · skip
        have H := H.2 c8
        refine wp_steps (i' := 23) (ls' := [some (.ref 101), some (.ref b), some (.int i2), some (.int x3)]) (st' := [.int x3, .ref b]) (h' := h4) (P := True) 2 rfl rfl trivial ?_
        obtain ⟨o9, H⟩ := H
        refine wp_call (b := false) (y' := 23) (as := [.ref b, .int x3]) (rest := []) (P := ((mxT b).1 = mxRc 23 ∧ mxG h4)) rfl (by with_unfolding_all rfl) ⟨(congrArg Prod.fst (sL_0 hVb)), G6⟩ (Nat.le_of_ble_eq_true rfl) (spm_23 G6 hVb o9 ?_)
        intro h11 p12
        show mx_wp (d + 2) 36 24 [some (.ref 101), some (.ref b), some (.int i2), some (.int x3)] [] h11 Q
        have H := H h11 p12
        have G13 : mxG h11 := mxU_G p12.1 G6
        refine wp_steps (i' := 25) (ls' := [some (.ref 101), some (.ref b), some (.int i2), some (.int x3)]) (st' := [.int i2]) (h' := h11) (P := True) 1 rfl rfl trivial ?_
        refine wp_br (P := True) (c := i2 ≤ 0) (t := 29) (st' := []) rfl rfl trivial (fun c14 => ?_) (fun c14 => ?_)
        · have c14 := Int32.not_lt.mpr c14
          have H := H.2 c14
          refine wp_steps (i' := 31) (ls' := [some (.ref 101), some (.ref b), some (.int i2), some (.int x3)]) (st' := [.int 43, .ref 101]) (h' := h11) (P := True) 2 rfl rfl trivial ?_
          obtain ⟨o15, H⟩ := H
          refine wp_call (b := false) (y' := 98) (as := [.ref 101, .int 43]) (rest := []) (P := ((mxT 101).1 = mxRc 98 ∧ mxG h11)) rfl (by with_unfolding_all rfl) ⟨(congrArg Prod.fst sT_101), G13⟩ (Nat.le_of_ble_eq_true rfl) (spm_98 G13 o15 ?_)
          intro x16 h17 p18
          show mx_wp (d + 2) 36 32 [some (.ref 101), some (.ref b), some (.int i2), some (.int x3)] [.int x16] h17 Q
          have H := H x16 h17 p18
          have G19 : mxG h17 := mxK_G (mvC_K p18.1) G13
          refine wp_br (P := True) (c := ¬ x16 = 0) (t := 35) (st' := []) rfl rfl trivial (fun c20 => ?_) (fun c20 => ?_)
          · skip
            have H := H.2 c20
            refine wp_steps (i' := 36) (ls' := [some (.ref 101), some (.ref b), some (.int (i2 + 1)), some (.int x3)]) (st' := []) (h' := h17) (P := True) 1 rfl rfl trivial ?_
            refine wp_J (j := 2) (st' := []) rfl rfl ?_
            exact H _
          · have c20 := Decidable.of_not_not c20
            have H := H.1 c20
            refine wp_steps (i' := 34) (ls' := [some (.ref 101), some (.ref b), some (.int i2), some (.int x3)]) (st' := [.int 1]) (h' := h17) (P := True) 1 rfl rfl trivial ?_
            exact wp_end (o := .inl (some (.int 1))) (h' := h17) (P := ((1 : Int32) = 0 ∨ (1 : Int32) = 1)) rfl rfl (Or.inr rfl) H
        · have c14 := Int32.not_le.mp c14
          have H := H.1 c14
          refine wp_steps (i' := 28) (ls' := [some (.ref 101), some (.ref b), some (.int i2), some (.int x3)]) (st' := [.int 1010, .ref b]) (h' := h11) (P := True) 2 rfl rfl trivial ?_
          obtain ⟨o21, H⟩ := H
          refine wp_call (b := false) (y' := 23) (as := [.ref b, .int 1010]) (rest := []) (P := ((mxT b).1 = mxRc 23 ∧ mxG h11)) rfl (by with_unfolding_all rfl) ⟨(congrArg Prod.fst (sL_0 hVb)), G13⟩ (Nat.le_of_ble_eq_true rfl) (spm_23 G13 hVb o21 ?_)
          intro h23 p24
          show mx_wp (d + 2) 36 29 [some (.ref 101), some (.ref b), some (.int i2), some (.int x3)] [] h23 Q
          have H := H h23 p24
          have G25 : mxG h23 := mxU_G p24.1 G13
          refine wp_steps (i' := 31) (ls' := [some (.ref 101), some (.ref b), some (.int i2), some (.int x3)]) (st' := [.int 43, .ref 101]) (h' := h23) (P := True) 2 rfl rfl trivial ?_
          obtain ⟨o26, H⟩ := H
          refine wp_call (b := false) (y' := 98) (as := [.ref 101, .int 43]) (rest := []) (P := ((mxT 101).1 = mxRc 98 ∧ mxG h23)) rfl (by with_unfolding_all rfl) ⟨(congrArg Prod.fst sT_101), G25⟩ (Nat.le_of_ble_eq_true rfl) (spm_98 G25 o26 ?_)
          intro x27 h28 p29
          show mx_wp (d + 2) 36 32 [some (.ref 101), some (.ref b), some (.int i2), some (.int x3)] [.int x27] h28 Q
          have H := H x27 h28 p29
          have G30 : mxG h28 := mxK_G (mvC_K p29.1) G25
          refine wp_br (P := True) (c := ¬ x27 = 0) (t := 35) (st' := []) rfl rfl trivial (fun c31 => ?_) (fun c31 => ?_)
          · skip
            have H := H.2 c31
            refine wp_steps (i' := 36) (ls' := [some (.ref 101), some (.ref b), some (.int (i2 + 1)), some (.int x3)]) (st' := []) (h' := h28) (P := True) 1 rfl rfl trivial ?_
            refine wp_J (j := 2) (st' := []) rfl rfl ?_
            exact H _
          · have c31 := Decidable.of_not_not c31
            have H := H.1 c31
            refine wp_steps (i' := 34) (ls' := [some (.ref 101), some (.ref b), some (.int i2), some (.int x3)]) (st' := [.int 1]) (h' := h28) (P := True) 1 rfl rfl trivial ?_
            exact wp_end (o := .inl (some (.int 1))) (h' := h28) (P := ((1 : Int32) = 0 ∨ (1 : Int32) = 1)) rfl rfl (Or.inr rfl) H
      · have c8 := Decidable.of_not_not c8
        have H := H.1 c8
        refine wp_steps (i' := 20) (ls' := [some (.ref 101), some (.ref b), some (.int i2), some (.int x3)]) (st' := [.int 0]) (h' := h4) (P := True) 1 rfl rfl trivial ?_
        exact wp_end (o := .inl (some (.int 0))) (h' := h4) (P := ((0 : Int32) = 0 ∨ (0 : Int32) = 1)) rfl rfl (Or.inl rfl) H
    · have c7 := Decidable.of_not_not c7
      have H := H.1 c7
      refine wp_steps (i' := 14) (ls' := [some (.ref 101), some (.ref b), some (.int i2), some (.int x3)]) (st' := [.ref 101]) (h' := h4) (P := True) 1 rfl rfl trivial ?_
      obtain ⟨o32, H⟩ := H
      refine wp_call (b := false) (y' := 101) (as := [.ref 101]) (rest := []) (P := ((mxT 101).1 = mxRc 101 ∧ mxG h4)) rfl (by with_unfolding_all rfl) ⟨(congrArg Prod.fst sT_101), G6⟩ (Nat.le_of_ble_eq_true rfl) (spm_101 G6 o32 ?_)
      intro x33 h34 p35
      show mx_wp (d + 2) 36 15 [some (.ref 101), some (.ref b), some (.int i2), some (.int x3)] [.int x33] h34 Q
      have H := H x33 h34 p35
      have G36 : mxG h34 := mxK_G (mvC_K p35.1) G6
      refine wp_steps (i' := 18) (ls' := [some (.ref 101), some (.ref b), some (.int i2), some (.int x33)]) (st' := [.int (-1), .int x33]) (h' := h34) (P := True) 3 rfl rfl trivial ?_
      refine wp_br (P := True) (c := ¬ x33 = (-1)) (t := 21) (st' := []) rfl rfl trivial (fun c37 => ?_) (fun c37 => ?_)
      · skip
        have H := H.2 c37
        refine wp_steps (i' := 23) (ls' := [some (.ref 101), some (.ref b), some (.int i2), some (.int x33)]) (st' := [.int x33, .ref b]) (h' := h34) (P := True) 2 rfl rfl trivial ?_
        obtain ⟨o38, H⟩ := H
        refine wp_call (b := false) (y' := 23) (as := [.ref b, .int x33]) (rest := []) (P := ((mxT b).1 = mxRc 23 ∧ mxG h34)) rfl (by with_unfolding_all rfl) ⟨(congrArg Prod.fst (sL_0 hVb)), G36⟩ (Nat.le_of_ble_eq_true rfl) (spm_23 G36 hVb o38 ?_)
        intro h40 p41
        show mx_wp (d + 2) 36 24 [some (.ref 101), some (.ref b), some (.int i2), some (.int x33)] [] h40 Q
        have H := H h40 p41
        have G42 : mxG h40 := mxU_G p41.1 G36
        refine wp_steps (i' := 25) (ls' := [some (.ref 101), some (.ref b), some (.int i2), some (.int x33)]) (st' := [.int i2]) (h' := h40) (P := True) 1 rfl rfl trivial ?_
        refine wp_br (P := True) (c := i2 ≤ 0) (t := 29) (st' := []) rfl rfl trivial (fun c43 => ?_) (fun c43 => ?_)
        · have c43 := Int32.not_lt.mpr c43
          have H := H.2 c43
          refine wp_steps (i' := 31) (ls' := [some (.ref 101), some (.ref b), some (.int i2), some (.int x33)]) (st' := [.int 43, .ref 101]) (h' := h40) (P := True) 2 rfl rfl trivial ?_
          obtain ⟨o44, H⟩ := H
          refine wp_call (b := false) (y' := 98) (as := [.ref 101, .int 43]) (rest := []) (P := ((mxT 101).1 = mxRc 98 ∧ mxG h40)) rfl (by with_unfolding_all rfl) ⟨(congrArg Prod.fst sT_101), G42⟩ (Nat.le_of_ble_eq_true rfl) (spm_98 G42 o44 ?_)
          intro x45 h46 p47
          show mx_wp (d + 2) 36 32 [some (.ref 101), some (.ref b), some (.int i2), some (.int x33)] [.int x45] h46 Q
          have H := H x45 h46 p47
          have G48 : mxG h46 := mxK_G (mvC_K p47.1) G42
          refine wp_br (P := True) (c := ¬ x45 = 0) (t := 35) (st' := []) rfl rfl trivial (fun c49 => ?_) (fun c49 => ?_)
          · skip
            have H := H.2 c49
            refine wp_steps (i' := 36) (ls' := [some (.ref 101), some (.ref b), some (.int (i2 + 1)), some (.int x33)]) (st' := []) (h' := h46) (P := True) 1 rfl rfl trivial ?_
            refine wp_J (j := 2) (st' := []) rfl rfl ?_
            exact H _
          · have c49 := Decidable.of_not_not c49
            have H := H.1 c49
            refine wp_steps (i' := 34) (ls' := [some (.ref 101), some (.ref b), some (.int i2), some (.int x33)]) (st' := [.int 1]) (h' := h46) (P := True) 1 rfl rfl trivial ?_
            exact wp_end (o := .inl (some (.int 1))) (h' := h46) (P := ((1 : Int32) = 0 ∨ (1 : Int32) = 1)) rfl rfl (Or.inr rfl) H
        · have c43 := Int32.not_le.mp c43
          have H := H.1 c43
          refine wp_steps (i' := 28) (ls' := [some (.ref 101), some (.ref b), some (.int i2), some (.int x33)]) (st' := [.int 1010, .ref b]) (h' := h40) (P := True) 2 rfl rfl trivial ?_
          obtain ⟨o50, H⟩ := H
          refine wp_call (b := false) (y' := 23) (as := [.ref b, .int 1010]) (rest := []) (P := ((mxT b).1 = mxRc 23 ∧ mxG h40)) rfl (by with_unfolding_all rfl) ⟨(congrArg Prod.fst (sL_0 hVb)), G42⟩ (Nat.le_of_ble_eq_true rfl) (spm_23 G42 hVb o50 ?_)
          intro h52 p53
          show mx_wp (d + 2) 36 29 [some (.ref 101), some (.ref b), some (.int i2), some (.int x33)] [] h52 Q
          have H := H h52 p53
          have G54 : mxG h52 := mxU_G p53.1 G42
          refine wp_steps (i' := 31) (ls' := [some (.ref 101), some (.ref b), some (.int i2), some (.int x33)]) (st' := [.int 43, .ref 101]) (h' := h52) (P := True) 2 rfl rfl trivial ?_
          obtain ⟨o55, H⟩ := H
          refine wp_call (b := false) (y' := 98) (as := [.ref 101, .int 43]) (rest := []) (P := ((mxT 101).1 = mxRc 98 ∧ mxG h52)) rfl (by with_unfolding_all rfl) ⟨(congrArg Prod.fst sT_101), G54⟩ (Nat.le_of_ble_eq_true rfl) (spm_98 G54 o55 ?_)
          intro x56 h57 p58
          show mx_wp (d + 2) 36 32 [some (.ref 101), some (.ref b), some (.int i2), some (.int x33)] [.int x56] h57 Q
          have H := H x56 h57 p58
          have G59 : mxG h57 := mxK_G (mvC_K p58.1) G54
          refine wp_br (P := True) (c := ¬ x56 = 0) (t := 35) (st' := []) rfl rfl trivial (fun c60 => ?_) (fun c60 => ?_)
          · skip
            have H := H.2 c60
            refine wp_steps (i' := 36) (ls' := [some (.ref 101), some (.ref b), some (.int (i2 + 1)), some (.int x33)]) (st' := []) (h' := h57) (P := True) 1 rfl rfl trivial ?_
            refine wp_J (j := 2) (st' := []) rfl rfl ?_
            exact H _
          · have c60 := Decidable.of_not_not c60
            have H := H.1 c60
            refine wp_steps (i' := 34) (ls' := [some (.ref 101), some (.ref b), some (.int i2), some (.int x33)]) (st' := [.int 1]) (h' := h57) (P := True) 1 rfl rfl trivial ?_
            exact wp_end (o := .inl (some (.int 1))) (h' := h57) (P := ((1 : Int32) = 0 ∨ (1 : Int32) = 1)) rfl rfl (Or.inr rfl) H
      · have c37 := Decidable.of_not_not c37
        have H := H.1 c37
        refine wp_steps (i' := 20) (ls' := [some (.ref 101), some (.ref b), some (.int i2), some (.int x33)]) (st' := [.int 0]) (h' := h34) (P := True) 1 rfl rfl trivial ?_
        exact wp_end (o := .inl (some (.int 0))) (h' := h34) (P := ((0 : Int32) = 0 ∨ (0 : Int32) = 1)) rfl rfl (Or.inl rfl) H
/-! 91: StoneBacks$Tape.wordOf(II)LStoneBacks$Word; -/
def H_91_2 (d : Nat) (h : mxH) (i1 : Int32) (i2 : Int32) (i3 : Int32) (Q : mxO → mxH → Prop) : Prop := mx_wp d 91 2 [some (.ref 101), some (.int i1), some (.int i2), some (.int i3)] [] h Q
set_option maxRecDepth 8000 in
theorem tr_91_0 {d : Nat} {h : mxH} {Q : mxO → mxH → Prop} {i1 : Int32} {i2 : Int32} (G : mxG h)  (H : H_91_2 (d + 5) h i1 i2 0 Q) : mx_wp (d + 5) 91 0 (mx_fr 91 [.ref 101, .int i1, .int i2]) [] h Q := by
  show mx_wp (d + 5) 91 0 [some (.ref 101), some (.int i1), some (.int i2), none] [] h Q
  refine wp_steps (i' := 2) (ls' := [some (.ref 101), some (.int i1), some (.int i2), some (.int 0)]) (st' := []) (h' := h) (P := True) 2 rfl rfl trivial ?_
  exact H 
set_option maxRecDepth 8000 in
theorem tr_91_2 {d : Nat} {h : mxH} {Q : mxO → mxH → Prop}  {i1 : Int32} {i2 : Int32} {i3 : Int32} (G : mxG h)  (H : ((i3 < 26 → (vp_in i3 26 ∧ (3 ≤ (3 + i3.toNatClampNeg) ∧ (3 + i3.toNatClampNeg) < 29) ∧ ((30 ≤ (2 * (3 + i3.toNatClampNeg) + 24) ∧ (2 * (3 + i3.toNatClampNeg) + 24) < 82 ∧ (2 * (3 + i3.toNatClampNeg) + 24) % 2 = 0) ∧ (31 ≤ ((2 * (3 + i3.toNatClampNeg) + 24) + 1) ∧ ((2 * (3 + i3.toNatClampNeg) + 24) + 1) < 83 ∧ ((2 * (3 + i3.toNatClampNeg) + 24) + 1) % 2 = 1) ∧ (((1 : Int32) = 0 → True) ∧ (¬ (1 : Int32) = 0 → ((30 ≤ (2 * (3 + i3.toNatClampNeg) + 24) ∧ (2 * (3 + i3.toNatClampNeg) + 24) < 82 ∧ (2 * (3 + i3.toNatClampNeg) + 24) % 2 = 0) ∧ True))) ∧ (narrow .byte (.int ((if (1 : Int32) = 0 then 1 else 0) : Int32)) = .int ((if (1 : Int32) = 0 then 1 else 0) : Int32)) ∧ (((V_307 h (2 * (3 + i3.toNatClampNeg) + 24)) = i2 → (cB i1 400 ∧ cB (mx_i h 101 1) 400 ∧ (((V_92 h (2 * (3 + i3.toNatClampNeg) + 24) i1) = 0 → H_91_2 (d + 5) h i1 i2 (i3 + 1) Q) ∧ (¬ (V_92 h (2 * (3 + i3.toNatClampNeg) + 24) i1) = 0 → Q (.inl (some (.ref (3 + i3.toNatClampNeg)))) h)))) ∧ (¬ (V_307 h (2 * (3 + i3.toNatClampNeg) + 24)) = i2 → H_91_2 (d + 5) h i1 i2 (i3 + 1) Q))))) ∧ (¬ i3 < 26 → Q (.inl (some (.ref 0))) h))) : H_91_2 (d + 5) h i1 i2 i3 Q := by
  show mx_wp (d + 5) 91 2 [some (.ref 101), some (.int i1), some (.int i2), some (.int i3)] [] h Q
  refine wp_steps (i' := 5) (ls' := [some (.ref 101), some (.int i1), some (.int i2), some (.int i3)]) (st' := [.int 26, .int i3]) (h' := h) (P := (2 = 2) ∧ True) 3 rfl rfl ⟨rfl, trivial⟩ ?_
  refine wp_br (P := True) (c := 26 ≤ i3) (t := 27) (st' := []) rfl rfl trivial (fun c1 => ?_) (fun c1 => ?_)
  · have c1 := Int32.not_lt.mpr c1
    have H := H.2 c1
    refine wp_steps (i' := 28) (ls' := [some (.ref 101), some (.int i1), some (.int i2), some (.int i3)]) (st' := [.ref 0]) (h' := h) (P := True) 1 rfl rfl trivial ?_
    exact wp_end (o := .inl (some (.ref 0))) (h' := h) (P := True) rfl rfl trivial H
  · have c1 := Int32.not_le.mp c1
    have H := H.1 c1
    obtain ⟨o2, o3, H⟩ := H
    refine wp_steps (i' := 10) (ls' := [some (.ref 101), some (.int i1), some (.int i2), some (.int i3)]) (st' := [.ref (2 * (3 + i3.toNatClampNeg) + 24)]) (h' := h) (P := (2 = 2 ∧ vp_in i3 26) ∧ (3 ≤ (3 + i3.toNatClampNeg) ∧ (3 + i3.toNatClampNeg) < 29) ∧ True) 4 rfl rfl ⟨⟨rfl, o2⟩, o3, trivial⟩ ?_
    obtain ⟨o4, o5, o6, o7, H⟩ := H
    refine wp_call (b := false) (y' := 307) (as := [.ref (2 * (3 + i3.toNatClampNeg) + 24)]) (rest := []) (P := (30 ≤ (2 * (3 + i3.toNatClampNeg) + 24) ∧ (2 * (3 + i3.toNatClampNeg) + 24) < 82 ∧ (2 * (3 + i3.toNatClampNeg) + 24) % 2 = 0)) rfl (by with_unfolding_all rfl) o4 (Nat.le_of_ble_eq_true rfl) (sp_307 G o4 o5 o6 o7 ?_)
    show mx_wp (d + 5) 91 11 [some (.ref 101), some (.int i1), some (.int i2), some (.int i3)] [.int (V_307 h (2 * (3 + i3.toNatClampNeg) + 24))] h Q
    refine wp_steps (i' := 12) (ls' := [some (.ref 101), some (.int i1), some (.int i2), some (.int i3)]) (st' := [.int i2, .int (V_307 h (2 * (3 + i3.toNatClampNeg) + 24))]) (h' := h) (P := True) 1 rfl rfl trivial ?_
    refine wp_br (P := True) (c := ¬ (V_307 h (2 * (3 + i3.toNatClampNeg) + 24)) = i2) (t := 25) (st' := []) rfl rfl trivial (fun c8 => ?_) (fun c8 => ?_)
    · skip
      have H := H.2 c8
      refine wp_steps (i' := 26) (ls' := [some (.ref 101), some (.int i1), some (.int i2), some (.int (i3 + 1))]) (st' := []) (h' := h) (P := True) 1 rfl rfl trivial ?_
      refine wp_J (j := 2) (st' := []) rfl rfl ?_
      exact H 
    · have c8 := Decidable.of_not_not c8
      have H := H.1 c8
      refine wp_steps (i' := 19) (ls' := [some (.ref 101), some (.int i1), some (.int i2), some (.int i3)]) (st' := [.int i1, .ref (2 * (3 + i3.toNatClampNeg) + 24), .ref 101]) (h' := h) (P := (2 = 2 ∧ vp_in i3 26) ∧ (3 ≤ (3 + i3.toNatClampNeg) ∧ (3 + i3.toNatClampNeg) < 29) ∧ True) 6 rfl rfl ⟨⟨rfl, o2⟩, o3, trivial⟩ ?_
      obtain ⟨o9, o10, H⟩ := H
      refine wp_call (b := false) (y' := 92) (as := [.ref 101, .ref (2 * (3 + i3.toNatClampNeg) + 24), .int i1]) (rest := []) (P := ((mxT 101).1 = mxRc 92 ∧ mxG h)) rfl (by with_unfolding_all rfl) ⟨(congrArg Prod.fst sT_101), G⟩ (Nat.le_of_ble_eq_true rfl) (sp_92 G o4 o9 o10 ?_)
      show mx_wp (d + 5) 91 20 [some (.ref 101), some (.int i1), some (.int i2), some (.int i3)] [.int (V_92 h (2 * (3 + i3.toNatClampNeg) + 24) i1)] h Q
      refine wp_br (P := True) (c := (V_92 h (2 * (3 + i3.toNatClampNeg) + 24) i1) = 0) (t := 25) (st' := []) rfl rfl trivial (fun c11 => ?_) (fun c11 => ?_)
      · skip
        have H := H.1 c11
        refine wp_steps (i' := 26) (ls' := [some (.ref 101), some (.int i1), some (.int i2), some (.int (i3 + 1))]) (st' := []) (h' := h) (P := True) 1 rfl rfl trivial ?_
        refine wp_J (j := 2) (st' := []) rfl rfl ?_
        exact H 
      · skip
        have H := H.2 c11
        refine wp_steps (i' := 24) (ls' := [some (.ref 101), some (.int i1), some (.int i2), some (.int i3)]) (st' := [.ref (3 + i3.toNatClampNeg)]) (h' := h) (P := (2 = 2 ∧ vp_in i3 26) ∧ True) 3 rfl rfl ⟨⟨rfl, o2⟩, trivial⟩ ?_
        exact wp_end (o := .inl (some (.ref (3 + i3.toNatClampNeg)))) (h' := h) (P := True) rfl rfl trivial H
/-! 124: StoneBacks$ValleyText.readPerson(LStoneBacks$Tape;LStoneBacks$Valley;)Z -/
set_option maxRecDepth 8000 in
theorem tr_124_0 {d : Nat} {h : mxH} {Q : mxO → mxH → Prop} {a : Nat} (G : mxG h) (hVa : (mxT a).1 = 9) (H : (okC h ∧ (3 ≤ 3 ∧ 3 < 29) ∧ (∀ (x3 : Int32) (h4 : mxH), p96 3 h x3 h4 → (okC h4 ∧ (∀ (x8 : Int32) (h9 : mxH), p100 (0 : Int32) (999 : Int32) h4 x8 h9 → ((x8 = (-1) → Q (.inl (some (.int 0))) h9) ∧ (¬ x8 = (-1) → (okC h9 ∧ (3 ≤ 24 ∧ 24 < 29) ∧ (∀ (x15 : Int32) (h16 : mxH), p96 24 h9 x15 h16 → ((x15 = 0 → Q (.inl (some (.int 0))) h16) ∧ (¬ x15 = 0 → (okC h16 ∧ (∀ (x21 : Int32) (h22 : mxH), p100 (1 : Int32) (60 : Int32) h16 x21 h22 → ((x21 = (-1) → Q (.inl (some (.int 0))) h22) ∧ (¬ x21 = (-1) → (okC h22 ∧ (3 ≤ 5 ∧ 5 < 29) ∧ (∀ (x28 : Int32) (h29 : mxH), p96 5 h22 x28 h29 → ((x28 = 0 → Q (.inl (some (.int 0))) h29) ∧ (¬ x28 = 0 → (okC h29 ∧ (∀ (x34 : Int32) (h35 : mxH), p100 (0 : Int32) (11 : Int32) h29 x34 h35 → ((x34 = (-1) → Q (.inl (some (.int 0))) h35) ∧ (¬ x34 = (-1) → (okC h35 ∧ (3 ≤ 4 ∧ 4 < 29) ∧ (∀ (x41 : Int32) (h42 : mxH), p96 4 h35 x41 h42 → ((x41 = 0 → ((((mx_i h42 (a + 1) 0) < 6 → (vp_in (mx_i h42 (a + 1) 0) 6 ∧ (vp_in (mx_i (mx_wi h42 (a + 2) (mx_i h42 (a + 1) 0).toNatClampNeg x8) (a + 1) 0) 6 ∧ (vp_in (mx_i (mx_wi (mx_wi h42 (a + 2) (mx_i h42 (a + 1) 0).toNatClampNeg x8) (a + 3) (mx_i (mx_wi h42 (a + 2) (mx_i h42 (a + 1) 0).toNatClampNeg x8) (a + 1) 0).toNatClampNeg x21) (a + 1) 0) 6 ∧ (vp_in (mx_i (mx_wi (mx_wi (mx_wi h42 (a + 2) (mx_i h42 (a + 1) 0).toNatClampNeg x8) (a + 3) (mx_i (mx_wi h42 (a + 2) (mx_i h42 (a + 1) 0).toNatClampNeg x8) (a + 1) 0).toNatClampNeg x21) (a + 4) (mx_i (mx_wi (mx_wi h42 (a + 2) (mx_i h42 (a + 1) 0).toNatClampNeg x8) (a + 3) (mx_i (mx_wi h42 (a + 2) (mx_i h42 (a + 1) 0).toNatClampNeg x8) (a + 1) 0).toNatClampNeg x21) (a + 1) 0).toNatClampNeg x34) (a + 1) 0) 6 ∧ (vp_in (mx_i (mx_wi (mx_wi (mx_wi (mx_wi h42 (a + 2) (mx_i h42 (a + 1) 0).toNatClampNeg x8) (a + 3) (mx_i (mx_wi h42 (a + 2) (mx_i h42 (a + 1) 0).toNatClampNeg x8) (a + 1) 0).toNatClampNeg x21) (a + 4) (mx_i (mx_wi (mx_wi h42 (a + 2) (mx_i h42 (a + 1) 0).toNatClampNeg x8) (a + 3) (mx_i (mx_wi h42 (a + 2) (mx_i h42 (a + 1) 0).toNatClampNeg x8) (a + 1) 0).toNatClampNeg x21) (a + 1) 0).toNatClampNeg x34) (a + 5) (mx_i (mx_wi (mx_wi (mx_wi h42 (a + 2) (mx_i h42 (a + 1) 0).toNatClampNeg x8) (a + 3) (mx_i (mx_wi h42 (a + 2) (mx_i h42 (a + 1) 0).toNatClampNeg x8) (a + 1) 0).toNatClampNeg x21) (a + 4) (mx_i (mx_wi (mx_wi h42 (a + 2) (mx_i h42 (a + 1) 0).toNatClampNeg x8) (a + 3) (mx_i (mx_wi h42 (a + 2) (mx_i h42 (a + 1) 0).toNatClampNeg x8) (a + 1) 0).toNatClampNeg x21) (a + 1) 0).toNatClampNeg x34) (a + 1) 0).toNatClampNeg x34) (a + 1) 0) 6 ∧ True)))))) ∧ (¬ (mx_i h42 (a + 1) 0) < 6 → True)) ∧ (∀ h47, h47 = W_45 h42 a x8 x21 x34 x34 → Q (.inl (some (.int 1))) h47))) ∧ (¬ x41 = 0 → (okC h42 ∧ (∀ (x52 : Int32) (h53 : mxH), p100 (0 : Int32) (11 : Int32) h42 x52 h53 → ((x52 = (-1) → Q (.inl (some (.int 0))) h53) ∧ (¬ x52 = (-1) → ((((mx_i h53 (a + 1) 0) < 6 → (vp_in (mx_i h53 (a + 1) 0) 6 ∧ (vp_in (mx_i (mx_wi h53 (a + 2) (mx_i h53 (a + 1) 0).toNatClampNeg x8) (a + 1) 0) 6 ∧ (vp_in (mx_i (mx_wi (mx_wi h53 (a + 2) (mx_i h53 (a + 1) 0).toNatClampNeg x8) (a + 3) (mx_i (mx_wi h53 (a + 2) (mx_i h53 (a + 1) 0).toNatClampNeg x8) (a + 1) 0).toNatClampNeg x21) (a + 1) 0) 6 ∧ (vp_in (mx_i (mx_wi (mx_wi (mx_wi h53 (a + 2) (mx_i h53 (a + 1) 0).toNatClampNeg x8) (a + 3) (mx_i (mx_wi h53 (a + 2) (mx_i h53 (a + 1) 0).toNatClampNeg x8) (a + 1) 0).toNatClampNeg x21) (a + 4) (mx_i (mx_wi (mx_wi h53 (a + 2) (mx_i h53 (a + 1) 0).toNatClampNeg x8) (a + 3) (mx_i (mx_wi h53 (a + 2) (mx_i h53 (a + 1) 0).toNatClampNeg x8) (a + 1) 0).toNatClampNeg x21) (a + 1) 0).toNatClampNeg x34) (a + 1) 0) 6 ∧ (vp_in (mx_i (mx_wi (mx_wi (mx_wi (mx_wi h53 (a + 2) (mx_i h53 (a + 1) 0).toNatClampNeg x8) (a + 3) (mx_i (mx_wi h53 (a + 2) (mx_i h53 (a + 1) 0).toNatClampNeg x8) (a + 1) 0).toNatClampNeg x21) (a + 4) (mx_i (mx_wi (mx_wi h53 (a + 2) (mx_i h53 (a + 1) 0).toNatClampNeg x8) (a + 3) (mx_i (mx_wi h53 (a + 2) (mx_i h53 (a + 1) 0).toNatClampNeg x8) (a + 1) 0).toNatClampNeg x21) (a + 1) 0).toNatClampNeg x34) (a + 5) (mx_i (mx_wi (mx_wi (mx_wi h53 (a + 2) (mx_i h53 (a + 1) 0).toNatClampNeg x8) (a + 3) (mx_i (mx_wi h53 (a + 2) (mx_i h53 (a + 1) 0).toNatClampNeg x8) (a + 1) 0).toNatClampNeg x21) (a + 4) (mx_i (mx_wi (mx_wi h53 (a + 2) (mx_i h53 (a + 1) 0).toNatClampNeg x8) (a + 3) (mx_i (mx_wi h53 (a + 2) (mx_i h53 (a + 1) 0).toNatClampNeg x8) (a + 1) 0).toNatClampNeg x21) (a + 1) 0).toNatClampNeg x34) (a + 1) 0).toNatClampNeg x52) (a + 1) 0) 6 ∧ True)))))) ∧ (¬ (mx_i h53 (a + 1) 0) < 6 → True)) ∧ (∀ h58, h58 = W_45 h53 a x8 x21 x34 x52 → Q (.inl (some (.int 1))) h58))))))))))))))))))))))))))))))))) : mx_wp (d + 2) 124 0 (mx_fr 124 [.ref 101, .ref a]) [] h Q := by
  show mx_wp (d + 2) 124 0 [some (.ref 101), some (.ref a), none, none, none, none] [] h Q
  refine wp_steps (i' := 2) (ls' := [some (.ref 101), some (.ref a), none, none, none, none]) (st' := [.ref 3, .ref 101]) (h' := h) (P := True) 2 rfl rfl trivial ?_
  obtain ⟨o1, o2, H⟩ := H
  refine wp_call (b := false) (y' := 96) (as := [.ref 101, .ref 3]) (rest := []) (P := ((mxT 101).1 = mxRc 96 ∧ mxG h)) rfl (by with_unfolding_all rfl) ⟨(congrArg Prod.fst sT_101), G⟩ (Nat.le_of_ble_eq_true rfl) (spm_96 G o1 o2 ?_)
  intro x3 h4 p5
  show mx_wp (d + 2) 124 3 [some (.ref 101), some (.ref a), none, none, none, none] [.int x3] h4 Q
  have H := H x3 h4 p5
  have G6 : mxG h4 := mxK_G (mvC_K p5.1) G
  refine wp_steps (i' := 7) (ls' := [some (.ref 101), some (.ref a), none, none, none, none]) (st' := [.int 999, .int 0, .ref 101]) (h' := h4) (P := True) 4 rfl rfl trivial ?_
  obtain ⟨o7, H⟩ := H
  refine wp_call (b := false) (y' := 100) (as := [.ref 101, .int 0, .int 999]) (rest := []) (P := ((mxT 101).1 = mxRc 100 ∧ mxG h4)) rfl (by with_unfolding_all rfl) ⟨(congrArg Prod.fst sT_101), G6⟩ (Nat.le_of_ble_eq_true rfl) (spm_100 G6 o7 ?_)
  intro x8 h9 p10
  show mx_wp (d + 2) 124 8 [some (.ref 101), some (.ref a), none, none, none, none] [.int x8] h9 Q
  have H := H x8 h9 p10
  have G11 : mxG h9 := mxK_G (mvC_K p10.1) G6
  refine wp_steps (i' := 11) (ls' := [some (.ref 101), some (.ref a), some (.int x8), none, none, none]) (st' := [.int (-1), .int x8]) (h' := h9) (P := True) 3 rfl rfl trivial ?_
  refine wp_br (P := True) (c := x8 = (-1)) (t := 16) (st' := []) rfl rfl trivial (fun c12 => ?_) (fun c12 => ?_)
  · skip
    have H := H.1 c12
    refine wp_steps (i' := 17) (ls' := [some (.ref 101), some (.ref a), some (.int x8), none, none, none]) (st' := [.int 0]) (h' := h9) (P := True) 1 rfl rfl trivial ?_
    exact wp_end (o := .inl (some (.int 0))) (h' := h9) (P := ((0 : Int32) = 0 ∨ (0 : Int32) = 1)) rfl rfl (Or.inl rfl) H
  · skip
    have H := H.2 c12
    refine wp_steps (i' := 14) (ls' := [some (.ref 101), some (.ref a), some (.int x8), none, none, none]) (st' := [.ref 24, .ref 101]) (h' := h9) (P := True) 2 rfl rfl trivial ?_
    obtain ⟨o13, o14, H⟩ := H
    refine wp_call (b := false) (y' := 96) (as := [.ref 101, .ref 24]) (rest := []) (P := ((mxT 101).1 = mxRc 96 ∧ mxG h9)) rfl (by with_unfolding_all rfl) ⟨(congrArg Prod.fst sT_101), G11⟩ (Nat.le_of_ble_eq_true rfl) (spm_96 G11 o13 o14 ?_)
    intro x15 h16 p17
    show mx_wp (d + 2) 124 15 [some (.ref 101), some (.ref a), some (.int x8), none, none, none] [.int x15] h16 Q
    have H := H x15 h16 p17
    have G18 : mxG h16 := mxK_G (mvC_K p17.1) G11
    refine wp_br (P := True) (c := ¬ x15 = 0) (t := 18) (st' := []) rfl rfl trivial (fun c19 => ?_) (fun c19 => ?_)
    · skip
      have H := H.2 c19
      refine wp_steps (i' := 21) (ls' := [some (.ref 101), some (.ref a), some (.int x8), none, none, none]) (st' := [.int 60, .int 1, .ref 101]) (h' := h16) (P := True) 3 rfl rfl trivial ?_
      obtain ⟨o20, H⟩ := H
      refine wp_call (b := false) (y' := 100) (as := [.ref 101, .int 1, .int 60]) (rest := []) (P := ((mxT 101).1 = mxRc 100 ∧ mxG h16)) rfl (by with_unfolding_all rfl) ⟨(congrArg Prod.fst sT_101), G18⟩ (Nat.le_of_ble_eq_true rfl) (spm_100 G18 o20 ?_)
      intro x21 h22 p23
      show mx_wp (d + 2) 124 22 [some (.ref 101), some (.ref a), some (.int x8), none, none, none] [.int x21] h22 Q
      have H := H x21 h22 p23
      have G24 : mxG h22 := mxK_G (mvC_K p23.1) G18
      refine wp_steps (i' := 25) (ls' := [some (.ref 101), some (.ref a), some (.int x8), some (.int x21), none, none]) (st' := [.int (-1), .int x21]) (h' := h22) (P := True) 3 rfl rfl trivial ?_
      refine wp_br (P := True) (c := x21 = (-1)) (t := 30) (st' := []) rfl rfl trivial (fun c25 => ?_) (fun c25 => ?_)
      · skip
        have H := H.1 c25
        refine wp_steps (i' := 31) (ls' := [some (.ref 101), some (.ref a), some (.int x8), some (.int x21), none, none]) (st' := [.int 0]) (h' := h22) (P := True) 1 rfl rfl trivial ?_
        exact wp_end (o := .inl (some (.int 0))) (h' := h22) (P := ((0 : Int32) = 0 ∨ (0 : Int32) = 1)) rfl rfl (Or.inl rfl) H
      · skip
        have H := H.2 c25
        refine wp_steps (i' := 28) (ls' := [some (.ref 101), some (.ref a), some (.int x8), some (.int x21), none, none]) (st' := [.ref 5, .ref 101]) (h' := h22) (P := True) 2 rfl rfl trivial ?_
        obtain ⟨o26, o27, H⟩ := H
        refine wp_call (b := false) (y' := 96) (as := [.ref 101, .ref 5]) (rest := []) (P := ((mxT 101).1 = mxRc 96 ∧ mxG h22)) rfl (by with_unfolding_all rfl) ⟨(congrArg Prod.fst sT_101), G24⟩ (Nat.le_of_ble_eq_true rfl) (spm_96 G24 o26 o27 ?_)
        intro x28 h29 p30
        show mx_wp (d + 2) 124 29 [some (.ref 101), some (.ref a), some (.int x8), some (.int x21), none, none] [.int x28] h29 Q
        have H := H x28 h29 p30
        have G31 : mxG h29 := mxK_G (mvC_K p30.1) G24
        refine wp_br (P := True) (c := ¬ x28 = 0) (t := 32) (st' := []) rfl rfl trivial (fun c32 => ?_) (fun c32 => ?_)
        · skip
          have H := H.2 c32
          refine wp_steps (i' := 35) (ls' := [some (.ref 101), some (.ref a), some (.int x8), some (.int x21), none, none]) (st' := [.int 11, .int 0, .ref 101]) (h' := h29) (P := True) 3 rfl rfl trivial ?_
          obtain ⟨o33, H⟩ := H
          refine wp_call (b := false) (y' := 100) (as := [.ref 101, .int 0, .int 11]) (rest := []) (P := ((mxT 101).1 = mxRc 100 ∧ mxG h29)) rfl (by with_unfolding_all rfl) ⟨(congrArg Prod.fst sT_101), G31⟩ (Nat.le_of_ble_eq_true rfl) (spm_100 G31 o33 ?_)
          intro x34 h35 p36
          show mx_wp (d + 2) 124 36 [some (.ref 101), some (.ref a), some (.int x8), some (.int x21), none, none] [.int x34] h35 Q
          have H := H x34 h35 p36
          have G37 : mxG h35 := mxK_G (mvC_K p36.1) G31
          refine wp_steps (i' := 39) (ls' := [some (.ref 101), some (.ref a), some (.int x8), some (.int x21), some (.int x34), none]) (st' := [.int (-1), .int x34]) (h' := h35) (P := True) 3 rfl rfl trivial ?_
          refine wp_br (P := True) (c := ¬ x34 = (-1)) (t := 42) (st' := []) rfl rfl trivial (fun c38 => ?_) (fun c38 => ?_)
          · skip
            have H := H.2 c38
            refine wp_steps (i' := 46) (ls' := [some (.ref 101), some (.ref a), some (.int x8), some (.int x21), some (.int x34), some (.int x34)]) (st' := [.ref 4, .ref 101]) (h' := h35) (P := True) 4 rfl rfl trivial ?_
            obtain ⟨o39, o40, H⟩ := H
            refine wp_call (b := false) (y' := 96) (as := [.ref 101, .ref 4]) (rest := []) (P := ((mxT 101).1 = mxRc 96 ∧ mxG h35)) rfl (by with_unfolding_all rfl) ⟨(congrArg Prod.fst sT_101), G37⟩ (Nat.le_of_ble_eq_true rfl) (spm_96 G37 o39 o40 ?_)
            intro x41 h42 p43
            show mx_wp (d + 2) 124 47 [some (.ref 101), some (.ref a), some (.int x8), some (.int x21), some (.int x34), some (.int x34)] [.int x41] h42 Q
            have H := H x41 h42 p43
            have G44 : mxG h42 := mxK_G (mvC_K p43.1) G37
            refine wp_br (P := True) (c := x41 = 0) (t := 58) (st' := []) rfl rfl trivial (fun c45 => ?_) (fun c45 => ?_)
            · skip
              have H := H.1 c45
              refine wp_steps (i' := 64) (ls' := [some (.ref 101), some (.ref a), some (.int x8), some (.int x21), some (.int x34), some (.int x34)]) (st' := [.int x34, .int x34, .int x21, .int x8, .ref (a + 1)]) (h' := h42) (P := ((mxT a).1 = 9 ∧ mxG h42) ∧ True) 6 rfl rfl ⟨⟨(congrArg Prod.fst (sV_0 hVa)), G44⟩, trivial⟩ ?_
              obtain ⟨o46, H⟩ := H
              refine wp_call (b := false) (y' := 45) (as := [.ref (a + 1), .int x8, .int x21, .int x34, .int x34]) (rest := []) (P := ((mxT (a + 1)).1 = mxRc 45 ∧ mxG h42)) rfl (by with_unfolding_all rfl) ⟨(congrArg Prod.fst (sV_1 hVa)), G44⟩ (Nat.le_of_ble_eq_true rfl) (sp_45 G44 hVa o46 ?_)
              show mx_wp (d + 2) 124 65 [some (.ref 101), some (.ref a), some (.int x8), some (.int x21), some (.int x34), some (.int x34)] [] (W_45 h42 a x8 x21 x34 x34) Q
              obtain ⟨h47, e48⟩ : ∃ z9, z9 = W_45 h42 a x8 x21 x34 x34 := ⟨_, rfl⟩
              rw [← e48]
              have H := H h47 e48
              have K50 : mxK h42 h47 := e48 ▸ KW_45
              have G49 : mxG h47 := mxK_G K50 G44
              refine wp_steps (i' := 66) (ls' := [some (.ref 101), some (.ref a), some (.int x8), some (.int x21), some (.int x34), some (.int x34)]) (st' := [.int 1]) (h' := h47) (P := True) 1 rfl rfl trivial ?_
              exact wp_end (o := .inl (some (.int 1))) (h' := h47) (P := ((1 : Int32) = 0 ∨ (1 : Int32) = 1)) rfl rfl (Or.inr rfl) H
            · skip
              have H := H.2 c45
              refine wp_steps (i' := 51) (ls' := [some (.ref 101), some (.ref a), some (.int x8), some (.int x21), some (.int x34), some (.int x34)]) (st' := [.int 11, .int 0, .ref 101]) (h' := h42) (P := True) 3 rfl rfl trivial ?_
              obtain ⟨o51, H⟩ := H
              refine wp_call (b := false) (y' := 100) (as := [.ref 101, .int 0, .int 11]) (rest := []) (P := ((mxT 101).1 = mxRc 100 ∧ mxG h42)) rfl (by with_unfolding_all rfl) ⟨(congrArg Prod.fst sT_101), G44⟩ (Nat.le_of_ble_eq_true rfl) (spm_100 G44 o51 ?_)
              intro x52 h53 p54
              show mx_wp (d + 2) 124 52 [some (.ref 101), some (.ref a), some (.int x8), some (.int x21), some (.int x34), some (.int x34)] [.int x52] h53 Q
              have H := H x52 h53 p54
              have G55 : mxG h53 := mxK_G (mvC_K p54.1) G44
              refine wp_steps (i' := 55) (ls' := [some (.ref 101), some (.ref a), some (.int x8), some (.int x21), some (.int x34), some (.int x52)]) (st' := [.int (-1), .int x52]) (h' := h53) (P := True) 3 rfl rfl trivial ?_
              refine wp_br (P := True) (c := ¬ x52 = (-1)) (t := 58) (st' := []) rfl rfl trivial (fun c56 => ?_) (fun c56 => ?_)
              · skip
                have H := H.2 c56
                refine wp_steps (i' := 64) (ls' := [some (.ref 101), some (.ref a), some (.int x8), some (.int x21), some (.int x34), some (.int x52)]) (st' := [.int x52, .int x34, .int x21, .int x8, .ref (a + 1)]) (h' := h53) (P := ((mxT a).1 = 9 ∧ mxG h53) ∧ True) 6 rfl rfl ⟨⟨(congrArg Prod.fst (sV_0 hVa)), G55⟩, trivial⟩ ?_
                obtain ⟨o57, H⟩ := H
                refine wp_call (b := false) (y' := 45) (as := [.ref (a + 1), .int x8, .int x21, .int x34, .int x52]) (rest := []) (P := ((mxT (a + 1)).1 = mxRc 45 ∧ mxG h53)) rfl (by with_unfolding_all rfl) ⟨(congrArg Prod.fst (sV_1 hVa)), G55⟩ (Nat.le_of_ble_eq_true rfl) (sp_45 G55 hVa o57 ?_)
                show mx_wp (d + 2) 124 65 [some (.ref 101), some (.ref a), some (.int x8), some (.int x21), some (.int x34), some (.int x52)] [] (W_45 h53 a x8 x21 x34 x52) Q
                obtain ⟨h58, e59⟩ : ∃ z9, z9 = W_45 h53 a x8 x21 x34 x52 := ⟨_, rfl⟩
                rw [← e59]
                have H := H h58 e59
                have K61 : mxK h53 h58 := e59 ▸ KW_45
                have G60 : mxG h58 := mxK_G K61 G55
                refine wp_steps (i' := 66) (ls' := [some (.ref 101), some (.ref a), some (.int x8), some (.int x21), some (.int x34), some (.int x52)]) (st' := [.int 1]) (h' := h58) (P := True) 1 rfl rfl trivial ?_
                exact wp_end (o := .inl (some (.int 1))) (h' := h58) (P := ((1 : Int32) = 0 ∨ (1 : Int32) = 1)) rfl rfl (Or.inr rfl) H
              · have c56 := Decidable.of_not_not c56
                have H := H.1 c56
                refine wp_steps (i' := 57) (ls' := [some (.ref 101), some (.ref a), some (.int x8), some (.int x21), some (.int x34), some (.int x52)]) (st' := [.int 0]) (h' := h53) (P := True) 1 rfl rfl trivial ?_
                exact wp_end (o := .inl (some (.int 0))) (h' := h53) (P := ((0 : Int32) = 0 ∨ (0 : Int32) = 1)) rfl rfl (Or.inl rfl) H
          · have c38 := Decidable.of_not_not c38
            have H := H.1 c38
            refine wp_steps (i' := 41) (ls' := [some (.ref 101), some (.ref a), some (.int x8), some (.int x21), some (.int x34), none]) (st' := [.int 0]) (h' := h35) (P := True) 1 rfl rfl trivial ?_
            exact wp_end (o := .inl (some (.int 0))) (h' := h35) (P := ((0 : Int32) = 0 ∨ (0 : Int32) = 1)) rfl rfl (Or.inl rfl) H
        · have c32 := Decidable.of_not_not c32
          have H := H.1 c32
          refine wp_steps (i' := 31) (ls' := [some (.ref 101), some (.ref a), some (.int x8), some (.int x21), none, none]) (st' := [.int 0]) (h' := h29) (P := True) 1 rfl rfl trivial ?_
          exact wp_end (o := .inl (some (.int 0))) (h' := h29) (P := ((0 : Int32) = 0 ∨ (0 : Int32) = 1)) rfl rfl (Or.inl rfl) H
    · have c19 := Decidable.of_not_not c19
      have H := H.1 c19
      refine wp_steps (i' := 17) (ls' := [some (.ref 101), some (.ref a), some (.int x8), none, none, none]) (st' := [.int 0]) (h' := h16) (P := True) 1 rfl rfl trivial ?_
      exact wp_end (o := .inl (some (.int 0))) (h' := h16) (P := ((0 : Int32) = 0 ∨ (0 : Int32) = 1)) rfl rfl (Or.inl rfl) H
/-! 126: StoneBacks$ValleyText.takePersonBut(ILStoneBacks$Tape;LStoneBacks$Valley;)I -/
set_option maxRecDepth 8000 in
theorem tr_126_0 {d : Nat} {h : mxH} {Q : mxO → mxH → Prop} {i0 : Int32} {a : Nat} (G : mxG h) (hVa : (mxT a).1 = 9) (H : (tkOk h ∧ (((V_99 h) = i0 → Q (.inl (some (.int (-1)))) h) ∧ (¬ (V_99 h) = i0 → (okC h ∧ (∀ (x4 : Int32) (h5 : mxH), p100 (0 : Int32) ((mx_i h (a + 1) 0) - 1) h x4 h5 → Q (.inl (some (.int x4))) h5)))))) : mx_wp (d + 2) 126 0 (mx_fr 126 [.int i0, .ref 101, .ref a]) [] h Q := by
  show mx_wp (d + 2) 126 0 [some (.int i0), some (.ref 101), some (.ref a)] [] h Q
  refine wp_steps (i' := 1) (ls' := [some (.int i0), some (.ref 101), some (.ref a)]) (st' := [.ref 101]) (h' := h) (P := True) 1 rfl rfl trivial ?_
  obtain ⟨o1, H⟩ := H
  refine wp_call (b := false) (y' := 99) (as := [.ref 101]) (rest := []) (P := ((mxT 101).1 = mxRc 99 ∧ mxG h)) rfl (by with_unfolding_all rfl) ⟨(congrArg Prod.fst sT_101), G⟩ (Nat.le_of_ble_eq_true rfl) (sp_99 G o1 ?_)
  show mx_wp (d + 2) 126 2 [some (.int i0), some (.ref 101), some (.ref a)] [.int (V_99 h)] h Q
  refine wp_steps (i' := 3) (ls' := [some (.int i0), some (.ref 101), some (.ref a)]) (st' := [.int i0, .int (V_99 h)]) (h' := h) (P := True) 1 rfl rfl trivial ?_
  refine wp_br (P := True) (c := ¬ (V_99 h) = i0) (t := 6) (st' := []) rfl rfl trivial (fun c2 => ?_) (fun c2 => ?_)
  · skip
    have H := H.2 c2
    refine wp_steps (i' := 13) (ls' := [some (.int i0), some (.ref 101), some (.ref a)]) (st' := [.int ((mx_i h (a + 1) 0) - 1), .int 0, .ref 101]) (h' := h) (P := ((mxT a).1 = 9 ∧ mxG h) ∧ ((mxT (a + 1)).1 = 5 ∧ mxG h) ∧ True) 7 rfl rfl ⟨⟨(congrArg Prod.fst (sV_0 hVa)), G⟩, ⟨(congrArg Prod.fst (sV_1 hVa)), G⟩, trivial⟩ ?_
    obtain ⟨o3, H⟩ := H
    refine wp_call (b := false) (y' := 100) (as := [.ref 101, .int 0, .int ((mx_i h (a + 1) 0) - 1)]) (rest := []) (P := ((mxT 101).1 = mxRc 100 ∧ mxG h)) rfl (by with_unfolding_all rfl) ⟨(congrArg Prod.fst sT_101), G⟩ (Nat.le_of_ble_eq_true rfl) (spm_100 G o3 ?_)
    intro x4 h5 p6
    show mx_wp (d + 2) 126 14 [some (.int i0), some (.ref 101), some (.ref a)] [.int x4] h5 Q
    have H := H x4 h5 p6
    have G7 : mxG h5 := mxK_G (mvC_K p6.1) G
    exact wp_end (o := .inl (some (.int x4))) (h' := h5) (P := True) rfl rfl trivial H
  · have c2 := Decidable.of_not_not c2
    have H := H.1 c2
    refine wp_steps (i' := 5) (ls' := [some (.int i0), some (.ref 101), some (.ref a)]) (st' := [.int (-1)]) (h' := h) (P := True) 1 rfl rfl trivial ?_
    refine wp_J (j := 14) (st' := [.int (-1)]) rfl rfl ?_
    exact wp_end (o := .inl (some (.int (-1)))) (h' := h) (P := True) rfl rfl trivial H
/-! 127: StoneBacks$ValleyText.readSlope(LStoneBacks$Tape;LStoneBacks$Valley;)Z -/
set_option maxRecDepth 8000 in
theorem tr_127_0 {d : Nat} {h : mxH} {Q : mxO → mxH → Prop} {a : Nat} (G : mxG h) (hVa : (mxT a).1 = 9) (H : (okC h ∧ (∀ (x2 : Int32) (h3 : mxH), p100 (0 : Int32) (11 : Int32) h x2 h3 → ((x2 = (-1) → Q (.inl (some (.int 0))) h3) ∧ (¬ x2 = (-1) → (okC h3 ∧ (∀ (x8 : Int32) (h9 : mxH), p100 (0 : Int32) (3 : Int32) h3 x8 h9 → ((x8 = (-1) → Q (.inl (some (.int 0))) h9) ∧ (¬ x8 = (-1) → (vp_in x2 12 ∧ (∀ h14, h14 = mx_wi h9 (a + 15) x2.toNatClampNeg x8 → Q (.inl (some (.int 1))) h14))))))))))) : mx_wp (d + 2) 127 0 (mx_fr 127 [.ref 101, .ref a]) [] h Q := by
  show mx_wp (d + 2) 127 0 [some (.ref 101), some (.ref a), none, none] [] h Q
  refine wp_steps (i' := 3) (ls' := [some (.ref 101), some (.ref a), none, none]) (st' := [.int 11, .int 0, .ref 101]) (h' := h) (P := True) 3 rfl rfl trivial ?_
  obtain ⟨o1, H⟩ := H
  refine wp_call (b := false) (y' := 100) (as := [.ref 101, .int 0, .int 11]) (rest := []) (P := ((mxT 101).1 = mxRc 100 ∧ mxG h)) rfl (by with_unfolding_all rfl) ⟨(congrArg Prod.fst sT_101), G⟩ (Nat.le_of_ble_eq_true rfl) (spm_100 G o1 ?_)
  intro x2 h3 p4
  show mx_wp (d + 2) 127 4 [some (.ref 101), some (.ref a), none, none] [.int x2] h3 Q
  have H := H x2 h3 p4
  have G5 : mxG h3 := mxK_G (mvC_K p4.1) G
  refine wp_steps (i' := 7) (ls' := [some (.ref 101), some (.ref a), some (.int x2), none]) (st' := [.int (-1), .int x2]) (h' := h3) (P := True) 3 rfl rfl trivial ?_
  refine wp_br (P := True) (c := ¬ x2 = (-1)) (t := 10) (st' := []) rfl rfl trivial (fun c6 => ?_) (fun c6 => ?_)
  · skip
    have H := H.2 c6
    refine wp_steps (i' := 13) (ls' := [some (.ref 101), some (.ref a), some (.int x2), none]) (st' := [.int 3, .int 0, .ref 101]) (h' := h3) (P := True) 3 rfl rfl trivial ?_
    obtain ⟨o7, H⟩ := H
    refine wp_call (b := false) (y' := 100) (as := [.ref 101, .int 0, .int 3]) (rest := []) (P := ((mxT 101).1 = mxRc 100 ∧ mxG h3)) rfl (by with_unfolding_all rfl) ⟨(congrArg Prod.fst sT_101), G5⟩ (Nat.le_of_ble_eq_true rfl) (spm_100 G5 o7 ?_)
    intro x8 h9 p10
    show mx_wp (d + 2) 127 14 [some (.ref 101), some (.ref a), some (.int x2), none] [.int x8] h9 Q
    have H := H x8 h9 p10
    have G11 : mxG h9 := mxK_G (mvC_K p10.1) G5
    refine wp_steps (i' := 17) (ls' := [some (.ref 101), some (.ref a), some (.int x2), some (.int x8)]) (st' := [.int (-1), .int x8]) (h' := h9) (P := True) 3 rfl rfl trivial ?_
    refine wp_br (P := True) (c := ¬ x8 = (-1)) (t := 20) (st' := []) rfl rfl trivial (fun c12 => ?_) (fun c12 => ?_)
    · skip
      have H := H.2 c12
      obtain ⟨o13, H⟩ := H
      refine wp_steps (i' := 25) (ls' := [some (.ref 101), some (.ref a), some (.int x2), some (.int x8)]) (st' := []) (h' := mx_wi h9 (a + 15) x2.toNatClampNeg x8) (P := ((mxT a).1 = 9 ∧ mxG h9) ∧ (((mxT (a + 15)).1 = 50 ∧ mxG h9) ∧ vp_in x2 (mxT (a + 15)).2) ∧ True) 5 rfl rfl ⟨⟨(congrArg Prod.fst (sV_0 hVa)), G11⟩, (cA (sV_15 hVa) G11 o13), trivial⟩ ?_
      obtain ⟨h14, e15⟩ : ∃ z9, z9 = mx_wi h9 (a + 15) x2.toNatClampNeg x8 := ⟨_, rfl⟩
      rw [← e15]
      have H := H h14 e15
      have G16 : mxG h14 := e15 ▸ mxG_wi G11
      refine wp_steps (i' := 26) (ls' := [some (.ref 101), some (.ref a), some (.int x2), some (.int x8)]) (st' := [.int 1]) (h' := h14) (P := True) 1 rfl rfl trivial ?_
      exact wp_end (o := .inl (some (.int 1))) (h' := h14) (P := ((1 : Int32) = 0 ∨ (1 : Int32) = 1)) rfl rfl (Or.inr rfl) H
    · have c12 := Decidable.of_not_not c12
      have H := H.1 c12
      refine wp_steps (i' := 19) (ls' := [some (.ref 101), some (.ref a), some (.int x2), some (.int x8)]) (st' := [.int 0]) (h' := h9) (P := True) 1 rfl rfl trivial ?_
      exact wp_end (o := .inl (some (.int 0))) (h' := h9) (P := ((0 : Int32) = 0 ∨ (0 : Int32) = 1)) rfl rfl (Or.inl rfl) H
  · have c6 := Decidable.of_not_not c6
    have H := H.1 c6
    refine wp_steps (i' := 9) (ls' := [some (.ref 101), some (.ref a), some (.int x2), none]) (st' := [.int 0]) (h' := h3) (P := True) 1 rfl rfl trivial ?_
    exact wp_end (o := .inl (some (.int 0))) (h' := h3) (P := ((0 : Int32) = 0 ∨ (0 : Int32) = 1)) rfl rfl (Or.inl rfl) H
/-! 128: StoneBacks$ValleyText.readPorch(LStoneBacks$Tape;LStoneBacks$Valley;)Z -/
set_option maxRecDepth 8000 in
theorem tr_128_0 {d : Nat} {h : mxH} {Q : mxO → mxH → Prop} {a : Nat} (G : mxG h) (hVa : (mxT a).1 = 9) (H : (okC h ∧ (∀ (x2 : Int32) (h3 : mxH), p100 (0 : Int32) (11 : Int32) h x2 h3 → ((x2 = (-1) → Q (.inl (some (.int 0))) h3) ∧ (¬ x2 = (-1) → (∀ h7, h7 = mx_wi h3 a 4 ((mx_i h3 a 4) ||| ((1 : Int32) <<< (x2 &&& 31))) → Q (.inl (some (.int 1))) h7)))))) : mx_wp (d + 2) 128 0 (mx_fr 128 [.ref 101, .ref a]) [] h Q := by
  show mx_wp (d + 2) 128 0 [some (.ref 101), some (.ref a), none] [] h Q
  refine wp_steps (i' := 3) (ls' := [some (.ref 101), some (.ref a), none]) (st' := [.int 11, .int 0, .ref 101]) (h' := h) (P := True) 3 rfl rfl trivial ?_
  obtain ⟨o1, H⟩ := H
  refine wp_call (b := false) (y' := 100) (as := [.ref 101, .int 0, .int 11]) (rest := []) (P := ((mxT 101).1 = mxRc 100 ∧ mxG h)) rfl (by with_unfolding_all rfl) ⟨(congrArg Prod.fst sT_101), G⟩ (Nat.le_of_ble_eq_true rfl) (spm_100 G o1 ?_)
  intro x2 h3 p4
  show mx_wp (d + 2) 128 4 [some (.ref 101), some (.ref a), none] [.int x2] h3 Q
  have H := H x2 h3 p4
  have G5 : mxG h3 := mxK_G (mvC_K p4.1) G
  refine wp_steps (i' := 7) (ls' := [some (.ref 101), some (.ref a), some (.int x2)]) (st' := [.int (-1), .int x2]) (h' := h3) (P := True) 3 rfl rfl trivial ?_
  refine wp_br (P := True) (c := ¬ x2 = (-1)) (t := 10) (st' := []) rfl rfl trivial (fun c6 => ?_) (fun c6 => ?_)
  · skip
    have H := H.2 c6
    refine wp_steps (i' := 18) (ls' := [some (.ref 101), some (.ref a), some (.int x2)]) (st' := []) (h' := mx_wi h3 a 4 ((mx_i h3 a 4) ||| ((1 : Int32) <<< (x2 &&& 31)))) (P := ((mxT a).1 = 9 ∧ mxG h3) ∧ ((mxT a).1 = 9 ∧ mxG h3) ∧ True) 8 rfl rfl ⟨⟨(congrArg Prod.fst (sV_0 hVa)), G5⟩, ⟨(congrArg Prod.fst (sV_0 hVa)), G5⟩, trivial⟩ ?_
    obtain ⟨h7, e8⟩ : ∃ z9, z9 = mx_wi h3 a 4 ((mx_i h3 a 4) ||| ((1 : Int32) <<< (x2 &&& 31))) := ⟨_, rfl⟩
    rw [← e8]
    have H := H h7 e8
    have G9 : mxG h7 := e8 ▸ mxG_wi G5
    refine wp_steps (i' := 19) (ls' := [some (.ref 101), some (.ref a), some (.int x2)]) (st' := [.int 1]) (h' := h7) (P := True) 1 rfl rfl trivial ?_
    exact wp_end (o := .inl (some (.int 1))) (h' := h7) (P := ((1 : Int32) = 0 ∨ (1 : Int32) = 1)) rfl rfl (Or.inr rfl) H
  · have c6 := Decidable.of_not_not c6
    have H := H.1 c6
    refine wp_steps (i' := 9) (ls' := [some (.ref 101), some (.ref a), some (.int x2)]) (st' := [.int 0]) (h' := h3) (P := True) 1 rfl rfl trivial ?_
    exact wp_end (o := .inl (some (.int 0))) (h' := h3) (P := ((0 : Int32) = 0 ∨ (0 : Int32) = 1)) rfl rfl (Or.inl rfl) H
/-! 129: StoneBacks$ValleyText.readLimit(LStoneBacks$Tape;LStoneBacks$Valley;)Z -/
set_option maxRecDepth 8000 in
theorem tr_129_0 {d : Nat} {h : mxH} {Q : mxO → mxH → Prop} {a : Nat} (G : mxG h) (hVa : (mxT a).1 = 9) (H : (okC h ∧ (∀ (x2 : Int32) (h3 : mxH), p100 (1 : Int32) (99 : Int32) h x2 h3 → ((x2 = (-1) → Q (.inl (some (.int 0))) h3) ∧ (¬ x2 = (-1) → (∀ h7, h7 = mx_wi h3 a 5 x2 → Q (.inl (some (.int 1))) h7)))))) : mx_wp (d + 2) 129 0 (mx_fr 129 [.ref 101, .ref a]) [] h Q := by
  show mx_wp (d + 2) 129 0 [some (.ref 101), some (.ref a), none] [] h Q
  refine wp_steps (i' := 3) (ls' := [some (.ref 101), some (.ref a), none]) (st' := [.int 99, .int 1, .ref 101]) (h' := h) (P := True) 3 rfl rfl trivial ?_
  obtain ⟨o1, H⟩ := H
  refine wp_call (b := false) (y' := 100) (as := [.ref 101, .int 1, .int 99]) (rest := []) (P := ((mxT 101).1 = mxRc 100 ∧ mxG h)) rfl (by with_unfolding_all rfl) ⟨(congrArg Prod.fst sT_101), G⟩ (Nat.le_of_ble_eq_true rfl) (spm_100 G o1 ?_)
  intro x2 h3 p4
  show mx_wp (d + 2) 129 4 [some (.ref 101), some (.ref a), none] [.int x2] h3 Q
  have H := H x2 h3 p4
  have G5 : mxG h3 := mxK_G (mvC_K p4.1) G
  refine wp_steps (i' := 7) (ls' := [some (.ref 101), some (.ref a), some (.int x2)]) (st' := [.int (-1), .int x2]) (h' := h3) (P := True) 3 rfl rfl trivial ?_
  refine wp_br (P := True) (c := ¬ x2 = (-1)) (t := 10) (st' := []) rfl rfl trivial (fun c6 => ?_) (fun c6 => ?_)
  · skip
    have H := H.2 c6
    refine wp_steps (i' := 13) (ls' := [some (.ref 101), some (.ref a), some (.int x2)]) (st' := []) (h' := mx_wi h3 a 5 x2) (P := ((mxT a).1 = 9 ∧ mxG h3) ∧ True) 3 rfl rfl ⟨⟨(congrArg Prod.fst (sV_0 hVa)), G5⟩, trivial⟩ ?_
    obtain ⟨h7, e8⟩ : ∃ z9, z9 = mx_wi h3 a 5 x2 := ⟨_, rfl⟩
    rw [← e8]
    have H := H h7 e8
    have G9 : mxG h7 := e8 ▸ mxG_wi G5
    refine wp_steps (i' := 14) (ls' := [some (.ref 101), some (.ref a), some (.int x2)]) (st' := [.int 1]) (h' := h7) (P := True) 1 rfl rfl trivial ?_
    exact wp_end (o := .inl (some (.int 1))) (h' := h7) (P := ((1 : Int32) = 0 ∨ (1 : Int32) = 1)) rfl rfl (Or.inr rfl) H
  · have c6 := Decidable.of_not_not c6
    have H := H.1 c6
    refine wp_steps (i' := 9) (ls' := [some (.ref 101), some (.ref a), some (.int x2)]) (st' := [.int 0]) (h' := h3) (P := True) 1 rfl rfl trivial ?_
    exact wp_end (o := .inl (some (.int 0))) (h' := h3) (P := ((0 : Int32) = 0 ∨ (0 : Int32) = 1)) rfl rfl (Or.inl rfl) H
/-! 130: StoneBacks$ValleyText.readHour(LStoneBacks$Tape;LStoneBacks$Valley;)Z -/
set_option maxRecDepth 8000 in
theorem tr_130_0 {d : Nat} {h : mxH} {Q : mxO → mxH → Prop} {a : Nat} (G : mxG h) (hVa : (mxT a).1 = 9) (H : (okC h ∧ (∀ (x2 : Int32) (h3 : mxH), p100 (0 : Int32) (999 : Int32) h x2 h3 → ((x2 = (-1) → Q (.inl (some (.int 0))) h3) ∧ (¬ x2 = (-1) → (∀ h7, h7 = mx_wi h3 a 6 x2 → Q (.inl (some (.int 1))) h7)))))) : mx_wp (d + 2) 130 0 (mx_fr 130 [.ref 101, .ref a]) [] h Q := by
  show mx_wp (d + 2) 130 0 [some (.ref 101), some (.ref a), none] [] h Q
  refine wp_steps (i' := 3) (ls' := [some (.ref 101), some (.ref a), none]) (st' := [.int 999, .int 0, .ref 101]) (h' := h) (P := True) 3 rfl rfl trivial ?_
  obtain ⟨o1, H⟩ := H
  refine wp_call (b := false) (y' := 100) (as := [.ref 101, .int 0, .int 999]) (rest := []) (P := ((mxT 101).1 = mxRc 100 ∧ mxG h)) rfl (by with_unfolding_all rfl) ⟨(congrArg Prod.fst sT_101), G⟩ (Nat.le_of_ble_eq_true rfl) (spm_100 G o1 ?_)
  intro x2 h3 p4
  show mx_wp (d + 2) 130 4 [some (.ref 101), some (.ref a), none] [.int x2] h3 Q
  have H := H x2 h3 p4
  have G5 : mxG h3 := mxK_G (mvC_K p4.1) G
  refine wp_steps (i' := 7) (ls' := [some (.ref 101), some (.ref a), some (.int x2)]) (st' := [.int (-1), .int x2]) (h' := h3) (P := True) 3 rfl rfl trivial ?_
  refine wp_br (P := True) (c := ¬ x2 = (-1)) (t := 10) (st' := []) rfl rfl trivial (fun c6 => ?_) (fun c6 => ?_)
  · skip
    have H := H.2 c6
    refine wp_steps (i' := 13) (ls' := [some (.ref 101), some (.ref a), some (.int x2)]) (st' := []) (h' := mx_wi h3 a 6 x2) (P := ((mxT a).1 = 9 ∧ mxG h3) ∧ True) 3 rfl rfl ⟨⟨(congrArg Prod.fst (sV_0 hVa)), G5⟩, trivial⟩ ?_
    obtain ⟨h7, e8⟩ : ∃ z9, z9 = mx_wi h3 a 6 x2 := ⟨_, rfl⟩
    rw [← e8]
    have H := H h7 e8
    have G9 : mxG h7 := e8 ▸ mxG_wi G5
    refine wp_steps (i' := 14) (ls' := [some (.ref 101), some (.ref a), some (.int x2)]) (st' := [.int 1]) (h' := h7) (P := True) 1 rfl rfl trivial ?_
    exact wp_end (o := .inl (some (.int 1))) (h' := h7) (P := ((1 : Int32) = 0 ∨ (1 : Int32) = 1)) rfl rfl (Or.inr rfl) H
  · have c6 := Decidable.of_not_not c6
    have H := H.1 c6
    refine wp_steps (i' := 9) (ls' := [some (.ref 101), some (.ref a), some (.int x2)]) (st' := [.int 0]) (h' := h3) (P := True) 1 rfl rfl trivial ?_
    exact wp_end (o := .inl (some (.int 0))) (h' := h3) (P := ((0 : Int32) = 0 ∨ (0 : Int32) = 1)) rfl rfl (Or.inl rfl) H
/-! 215: StoneBacksModel.figures(II)I -/
def H_215_11 (d : Nat) (h : mxH) (i1 : Int32) (i2 : Int32) (i3 : Int32) (i4 : Int32) (Q : mxO → mxH → Prop) : Prop := mx_wp d 215 11 [some (.ref 381), some (.int i1), some (.int i2), some (.int i3), some (.int i4)] [] h Q
set_option maxRecDepth 8000 in
theorem tr_215_0 {d : Nat} {h : mxH} {Q : mxO → mxH → Prop} {i1 : Int32} {i2 : Int32} (G : mxG h)  (H : (((mx_i h 381 12) = (-1) → (okT h ∧ (∀ (x3 : Int32) (h4 : mxH), p214 h x3 h4 → H_215_11 (d + 3) h4 i1 i2 x3 0 Q))) ∧ (¬ (mx_i h 381 12) = (-1) → Q (.inl (some (.int 0))) h))) : mx_wp (d + 3) 215 0 (mx_fr 215 [.ref 381, .int i1, .int i2]) [] h Q := by
  show mx_wp (d + 3) 215 0 [some (.ref 381), some (.int i1), some (.int i2), none, none] [] h Q
  refine wp_steps (i' := 3) (ls' := [some (.ref 381), some (.int i1), some (.int i2), none, none]) (st' := [.int (-1), .int (mx_i h 381 12)]) (h' := h) (P := ((mxT 381).1 = 11 ∧ mxG h) ∧ True) 3 rfl rfl ⟨⟨(congrArg Prod.fst sT_381), G⟩, trivial⟩ ?_
  refine wp_br (P := True) (c := (mx_i h 381 12) = (-1)) (t := 6) (st' := []) rfl rfl trivial (fun c1 => ?_) (fun c1 => ?_)
  · skip
    have H := H.1 c1
    refine wp_steps (i' := 7) (ls' := [some (.ref 381), some (.int i1), some (.int i2), none, none]) (st' := [.ref 381]) (h' := h) (P := True) 1 rfl rfl trivial ?_
    obtain ⟨o2, H⟩ := H
    refine wp_call (b := false) (y' := 214) (as := [.ref 381]) (rest := []) (P := ((mxT 381).1 = mxRc 214 ∧ mxG h)) rfl (by with_unfolding_all rfl) ⟨(congrArg Prod.fst sT_381), G⟩ (Nat.le_of_ble_eq_true rfl) (sp_214 G o2 ?_)
    intro x3 h4 p5
    show mx_wp (d + 3) 215 8 [some (.ref 381), some (.int i1), some (.int i2), none, none] [.int x3] h4 Q
    have H := H x3 h4 p5
    have G6 : mxG h4 := mxK_G p5.1 G
    refine wp_steps (i' := 11) (ls' := [some (.ref 381), some (.int i1), some (.int i2), some (.int x3), some (.int 0)]) (st' := []) (h' := h4) (P := True) 3 rfl rfl trivial ?_
    exact H 
  · skip
    have H := H.2 c1
    refine wp_steps (i' := 5) (ls' := [some (.ref 381), some (.int i1), some (.int i2), none, none]) (st' := [.int 0]) (h' := h) (P := True) 1 rfl rfl trivial ?_
    exact wp_end (o := .inl (some (.int 0))) (h' := h) (P := True) rfl rfl trivial H
set_option maxRecDepth 8000 in
theorem tr_215_11 {d : Nat} {h : mxH} {Q : mxO → mxH → Prop}  {i1 : Int32} {i2 : Int32} {i3 : Int32} {i4 : Int32} (G : mxG h)  (H : (((mx_i h 381 11) < (mx_i h 381 10) → ((((mx_i h 381 9) = (-1) → (vp_in (mx_i h 381 11) 400 ∧ True)) ∧ (¬ (mx_i h 381 9) = (-1) → (vp_in ((mx_i h 381 9) + (mx_i h 381 11)) 769 ∧ True))) ∧ (((V_191 (mx_i h 382) (V_209 h (mx_i h 381 11)) (48 : Int32) (57 : Int32)) = 0 → (((mx_i h 381 11) = i3 → (∀ h25, h25 = W_213 h i3 → Q (.inl (some (.int i4))) h25)) ∧ (¬ (mx_i h 381 11) = i3 → ((3 < ((mx_i h 381 11) - i3) → (∀ h30, h30 = W_213 h i3 → Q (.inl (some (.int i4))) h30)) ∧ (¬ 3 < ((mx_i h 381 11) - i3) → ((i4 < i1 → (∀ h35, h35 = W_213 h i3 → Q (.inl (some (.int i4))) h35)) ∧ (¬ i4 < i1 → ((i2 < i4 → (∀ h40, h40 = W_213 h i3 → Q (.inl (some (.int i4))) h40)) ∧ (¬ i2 < i4 → Q (.inl (some (.int i4))) h))))))))) ∧ (¬ (V_191 (mx_i h 382) (V_209 h (mx_i h 381 11)) (48 : Int32) (57 : Int32)) = 0 → ((3 < ((mx_i h 381 11) - i3) → (((mx_i h 381 11) = i3 → (∀ h46, h46 = W_213 h i3 → Q (.inl (some (.int i4))) h46)) ∧ (¬ (mx_i h 381 11) = i3 → ((3 < ((mx_i h 381 11) - i3) → (∀ h51, h51 = W_213 h i3 → Q (.inl (some (.int i4))) h51)) ∧ (¬ 3 < ((mx_i h 381 11) - i3) → ((i4 < i1 → (∀ h56, h56 = W_213 h i3 → Q (.inl (some (.int i4))) h56)) ∧ (¬ i4 < i1 → ((i2 < i4 → (∀ h61, h61 = W_213 h i3 → Q (.inl (some (.int i4))) h61)) ∧ (¬ i2 < i4 → Q (.inl (some (.int i4))) h))))))))) ∧ (¬ 3 < ((mx_i h 381 11) - i3) → (∀ h65, h65 = mx_wi h 381 11 ((mx_i h 381 11) + 1) → H_215_11 (d + 3) h65 i1 i2 i3 (((10 * i4) + (V_209 h (mx_i h 381 11))) - 48) Q))))))) ∧ (¬ (mx_i h 381 11) < (mx_i h 381 10) → (((mx_i h 381 11) = i3 → (∀ h3, h3 = W_213 h i3 → Q (.inl (some (.int i4))) h3)) ∧ (¬ (mx_i h 381 11) = i3 → ((3 < ((mx_i h 381 11) - i3) → (∀ h8, h8 = W_213 h i3 → Q (.inl (some (.int i4))) h8)) ∧ (¬ 3 < ((mx_i h 381 11) - i3) → ((i4 < i1 → (∀ h13, h13 = W_213 h i3 → Q (.inl (some (.int i4))) h13)) ∧ (¬ i4 < i1 → ((i2 < i4 → (∀ h18, h18 = W_213 h i3 → Q (.inl (some (.int i4))) h18)) ∧ (¬ i2 < i4 → Q (.inl (some (.int i4))) h))))))))))) : H_215_11 (d + 3) h i1 i2 i3 i4 Q := by
  show mx_wp (d + 3) 215 11 [some (.ref 381), some (.int i1), some (.int i2), some (.int i3), some (.int i4)] [] h Q
  refine wp_steps (i' := 15) (ls' := [some (.ref 381), some (.int i1), some (.int i2), some (.int i3), some (.int i4)]) (st' := [.int (mx_i h 381 10), .int (mx_i h 381 11)]) (h' := h) (P := ((mxT 381).1 = 11 ∧ mxG h) ∧ ((mxT 381).1 = 11 ∧ mxG h) ∧ True) 4 rfl rfl ⟨⟨(congrArg Prod.fst sT_381), G⟩, ⟨(congrArg Prod.fst sT_381), G⟩, trivial⟩ ?_
  refine wp_br (P := True) (c := (mx_i h 381 10) ≤ (mx_i h 381 11)) (t := 48) (st' := []) rfl rfl trivial (fun c1 => ?_) (fun c1 => ?_)
  · have c1 := Int32.not_lt.mpr c1
    have H := H.2 c1
    refine wp_steps (i' := 51) (ls' := [some (.ref 381), some (.int i1), some (.int i2), some (.int i3), some (.int i4)]) (st' := [.int i3, .int (mx_i h 381 11)]) (h' := h) (P := ((mxT 381).1 = 11 ∧ mxG h) ∧ True) 3 rfl rfl ⟨⟨(congrArg Prod.fst sT_381), G⟩, trivial⟩ ?_
    refine wp_br (P := True) (c := (mx_i h 381 11) = i3) (t := 64) (st' := []) rfl rfl trivial (fun c2 => ?_) (fun c2 => ?_)
    · skip
      have H := H.1 c2
      refine wp_steps (i' := 66) (ls' := [some (.ref 381), some (.int i1), some (.int i2), some (.int i3), some (.int i4)]) (st' := [.int i3, .ref 381]) (h' := h) (P := True) 2 rfl rfl trivial ?_
      refine wp_call (b := false) (y' := 213) (as := [.ref 381, .int i3]) (rest := []) (P := ((mxT 381).1 = mxRc 213 ∧ mxG h)) rfl (by with_unfolding_all rfl) ⟨(congrArg Prod.fst sT_381), G⟩ (Nat.le_of_ble_eq_true rfl) (sp_213 G ?_)
      show mx_wp (d + 3) 215 67 [some (.ref 381), some (.int i1), some (.int i2), some (.int i3), some (.int i4)] [] (W_213 h i3) Q
      obtain ⟨h3, e4⟩ : ∃ z9, z9 = W_213 h i3 := ⟨_, rfl⟩
      rw [← e4]
      have H := H h3 e4
      have K6 : mxK h h3 := e4 ▸ KW_213
      have G5 : mxG h3 := mxK_G K6 G
      refine wp_steps (i' := 68) (ls' := [some (.ref 381), some (.int i1), some (.int i2), some (.int i3), some (.int i4)]) (st' := [.int i4]) (h' := h3) (P := True) 1 rfl rfl trivial ?_
      exact wp_end (o := .inl (some (.int i4))) (h' := h3) (P := True) rfl rfl trivial H
    · skip
      have H := H.2 c2
      refine wp_steps (i' := 57) (ls' := [some (.ref 381), some (.int i1), some (.int i2), some (.int i3), some (.int i4)]) (st' := [.int 3, .int ((mx_i h 381 11) - i3)]) (h' := h) (P := ((mxT 381).1 = 11 ∧ mxG h) ∧ True) 5 rfl rfl ⟨⟨(congrArg Prod.fst sT_381), G⟩, trivial⟩ ?_
      refine wp_br (P := True) (c := 3 < ((mx_i h 381 11) - i3)) (t := 64) (st' := []) rfl rfl trivial (fun c7 => ?_) (fun c7 => ?_)
      · skip
        have H := H.1 c7
        refine wp_steps (i' := 66) (ls' := [some (.ref 381), some (.int i1), some (.int i2), some (.int i3), some (.int i4)]) (st' := [.int i3, .ref 381]) (h' := h) (P := True) 2 rfl rfl trivial ?_
        refine wp_call (b := false) (y' := 213) (as := [.ref 381, .int i3]) (rest := []) (P := ((mxT 381).1 = mxRc 213 ∧ mxG h)) rfl (by with_unfolding_all rfl) ⟨(congrArg Prod.fst sT_381), G⟩ (Nat.le_of_ble_eq_true rfl) (sp_213 G ?_)
        show mx_wp (d + 3) 215 67 [some (.ref 381), some (.int i1), some (.int i2), some (.int i3), some (.int i4)] [] (W_213 h i3) Q
        obtain ⟨h8, e9⟩ : ∃ z9, z9 = W_213 h i3 := ⟨_, rfl⟩
        rw [← e9]
        have H := H h8 e9
        have K11 : mxK h h8 := e9 ▸ KW_213
        have G10 : mxG h8 := mxK_G K11 G
        refine wp_steps (i' := 68) (ls' := [some (.ref 381), some (.int i1), some (.int i2), some (.int i3), some (.int i4)]) (st' := [.int i4]) (h' := h8) (P := True) 1 rfl rfl trivial ?_
        exact wp_end (o := .inl (some (.int i4))) (h' := h8) (P := True) rfl rfl trivial H
      · skip
        have H := H.2 c7
        refine wp_steps (i' := 60) (ls' := [some (.ref 381), some (.int i1), some (.int i2), some (.int i3), some (.int i4)]) (st' := [.int i1, .int i4]) (h' := h) (P := True) 2 rfl rfl trivial ?_
        refine wp_br (P := True) (c := i4 < i1) (t := 64) (st' := []) rfl rfl trivial (fun c12 => ?_) (fun c12 => ?_)
        · skip
          have H := H.1 c12
          refine wp_steps (i' := 66) (ls' := [some (.ref 381), some (.int i1), some (.int i2), some (.int i3), some (.int i4)]) (st' := [.int i3, .ref 381]) (h' := h) (P := True) 2 rfl rfl trivial ?_
          refine wp_call (b := false) (y' := 213) (as := [.ref 381, .int i3]) (rest := []) (P := ((mxT 381).1 = mxRc 213 ∧ mxG h)) rfl (by with_unfolding_all rfl) ⟨(congrArg Prod.fst sT_381), G⟩ (Nat.le_of_ble_eq_true rfl) (sp_213 G ?_)
          show mx_wp (d + 3) 215 67 [some (.ref 381), some (.int i1), some (.int i2), some (.int i3), some (.int i4)] [] (W_213 h i3) Q
          obtain ⟨h13, e14⟩ : ∃ z9, z9 = W_213 h i3 := ⟨_, rfl⟩
          rw [← e14]
          have H := H h13 e14
          have K16 : mxK h h13 := e14 ▸ KW_213
          have G15 : mxG h13 := mxK_G K16 G
          refine wp_steps (i' := 68) (ls' := [some (.ref 381), some (.int i1), some (.int i2), some (.int i3), some (.int i4)]) (st' := [.int i4]) (h' := h13) (P := True) 1 rfl rfl trivial ?_
          exact wp_end (o := .inl (some (.int i4))) (h' := h13) (P := True) rfl rfl trivial H
        · skip
          have H := H.2 c12
          refine wp_steps (i' := 63) (ls' := [some (.ref 381), some (.int i1), some (.int i2), some (.int i3), some (.int i4)]) (st' := [.int i2, .int i4]) (h' := h) (P := True) 2 rfl rfl trivial ?_
          refine wp_br (P := True) (c := i4 ≤ i2) (t := 67) (st' := []) rfl rfl trivial (fun c17 => ?_) (fun c17 => ?_)
          · have c17 := Int32.not_lt.mpr c17
            have H := H.2 c17
            refine wp_steps (i' := 68) (ls' := [some (.ref 381), some (.int i1), some (.int i2), some (.int i3), some (.int i4)]) (st' := [.int i4]) (h' := h) (P := True) 1 rfl rfl trivial ?_
            exact wp_end (o := .inl (some (.int i4))) (h' := h) (P := True) rfl rfl trivial H
          · have c17 := Int32.not_le.mp c17
            have H := H.1 c17
            refine wp_steps (i' := 66) (ls' := [some (.ref 381), some (.int i1), some (.int i2), some (.int i3), some (.int i4)]) (st' := [.int i3, .ref 381]) (h' := h) (P := True) 2 rfl rfl trivial ?_
            refine wp_call (b := false) (y' := 213) (as := [.ref 381, .int i3]) (rest := []) (P := ((mxT 381).1 = mxRc 213 ∧ mxG h)) rfl (by with_unfolding_all rfl) ⟨(congrArg Prod.fst sT_381), G⟩ (Nat.le_of_ble_eq_true rfl) (sp_213 G ?_)
            show mx_wp (d + 3) 215 67 [some (.ref 381), some (.int i1), some (.int i2), some (.int i3), some (.int i4)] [] (W_213 h i3) Q
            obtain ⟨h18, e19⟩ : ∃ z9, z9 = W_213 h i3 := ⟨_, rfl⟩
            rw [← e19]
            have H := H h18 e19
            have K21 : mxK h h18 := e19 ▸ KW_213
            have G20 : mxG h18 := mxK_G K21 G
            refine wp_steps (i' := 68) (ls' := [some (.ref 381), some (.int i1), some (.int i2), some (.int i3), some (.int i4)]) (st' := [.int i4]) (h' := h18) (P := True) 1 rfl rfl trivial ?_
            exact wp_end (o := .inl (some (.int i4))) (h' := h18) (P := True) rfl rfl trivial H
  · have c1 := Int32.not_le.mp c1
    have H := H.1 c1
    refine wp_steps (i' := 19) (ls' := [some (.ref 381), some (.int i1), some (.int i2), some (.int i3), some (.int i4)]) (st' := [.int (mx_i h 381 11), .ref 381]) (h' := h) (P := ((mxT 381).1 = 11 ∧ mxG h) ∧ True) 3 rfl rfl ⟨⟨(congrArg Prod.fst sT_381), G⟩, trivial⟩ ?_
    obtain ⟨o22, H⟩ := H
    refine wp_call (b := false) (y' := 209) (as := [.ref 381, .int (mx_i h 381 11)]) (rest := []) (P := ((mxT 381).1 = mxRc 209 ∧ mxG h)) rfl (by with_unfolding_all rfl) ⟨(congrArg Prod.fst sT_381), G⟩ (Nat.le_of_ble_eq_true rfl) (sp_209 G o22 ?_)
    show mx_wp (d + 3) 215 20 [some (.ref 381), some (.int i1), some (.int i2), some (.int i3), some (.int i4)] [.int (V_209 h (mx_i h 381 11))] h Q
    refine wp_steps (i' := 22) (ls' := [some (.ref 381), some (.int i1), some (.int i2), some (.int i3), some (.int i4)]) (st' := [.int 57, .int 48, .int (V_209 h (mx_i h 381 11))]) (h' := h) (P := True) 2 rfl rfl trivial ?_
    refine wp_call (b := false) (y' := 191) (as := [.int (V_209 h (mx_i h 381 11)), .int 48, .int 57]) (rest := []) (P := True) rfl (by with_unfolding_all rfl) trivial (Nat.le_of_ble_eq_true rfl) (sp_191 G ?_)
    show mx_wp (d + 3) 215 23 [some (.ref 381), some (.int i1), some (.int i2), some (.int i3), some (.int i4)] [.int (V_191 (mx_i h 382) (V_209 h (mx_i h 381 11)) (48 : Int32) (57 : Int32))] h Q
    refine wp_br (P := True) (c := (V_191 (mx_i h 382) (V_209 h (mx_i h 381 11)) (48 : Int32) (57 : Int32)) = 0) (t := 48) (st' := []) rfl rfl trivial (fun c23 => ?_) (fun c23 => ?_)
    · skip
      have H := H.1 c23
      refine wp_steps (i' := 51) (ls' := [some (.ref 381), some (.int i1), some (.int i2), some (.int i3), some (.int i4)]) (st' := [.int i3, .int (mx_i h 381 11)]) (h' := h) (P := ((mxT 381).1 = 11 ∧ mxG h) ∧ True) 3 rfl rfl ⟨⟨(congrArg Prod.fst sT_381), G⟩, trivial⟩ ?_
      refine wp_br (P := True) (c := (mx_i h 381 11) = i3) (t := 64) (st' := []) rfl rfl trivial (fun c24 => ?_) (fun c24 => ?_)
      · skip
        have H := H.1 c24
        refine wp_steps (i' := 66) (ls' := [some (.ref 381), some (.int i1), some (.int i2), some (.int i3), some (.int i4)]) (st' := [.int i3, .ref 381]) (h' := h) (P := True) 2 rfl rfl trivial ?_
        refine wp_call (b := false) (y' := 213) (as := [.ref 381, .int i3]) (rest := []) (P := ((mxT 381).1 = mxRc 213 ∧ mxG h)) rfl (by with_unfolding_all rfl) ⟨(congrArg Prod.fst sT_381), G⟩ (Nat.le_of_ble_eq_true rfl) (sp_213 G ?_)
        show mx_wp (d + 3) 215 67 [some (.ref 381), some (.int i1), some (.int i2), some (.int i3), some (.int i4)] [] (W_213 h i3) Q
        obtain ⟨h25, e26⟩ : ∃ z9, z9 = W_213 h i3 := ⟨_, rfl⟩
        rw [← e26]
        have H := H h25 e26
        have K28 : mxK h h25 := e26 ▸ KW_213
        have G27 : mxG h25 := mxK_G K28 G
        refine wp_steps (i' := 68) (ls' := [some (.ref 381), some (.int i1), some (.int i2), some (.int i3), some (.int i4)]) (st' := [.int i4]) (h' := h25) (P := True) 1 rfl rfl trivial ?_
        exact wp_end (o := .inl (some (.int i4))) (h' := h25) (P := True) rfl rfl trivial H
      · skip
        have H := H.2 c24
        refine wp_steps (i' := 57) (ls' := [some (.ref 381), some (.int i1), some (.int i2), some (.int i3), some (.int i4)]) (st' := [.int 3, .int ((mx_i h 381 11) - i3)]) (h' := h) (P := ((mxT 381).1 = 11 ∧ mxG h) ∧ True) 5 rfl rfl ⟨⟨(congrArg Prod.fst sT_381), G⟩, trivial⟩ ?_
        refine wp_br (P := True) (c := 3 < ((mx_i h 381 11) - i3)) (t := 64) (st' := []) rfl rfl trivial (fun c29 => ?_) (fun c29 => ?_)
        · skip
          have H := H.1 c29
          refine wp_steps (i' := 66) (ls' := [some (.ref 381), some (.int i1), some (.int i2), some (.int i3), some (.int i4)]) (st' := [.int i3, .ref 381]) (h' := h) (P := True) 2 rfl rfl trivial ?_
          refine wp_call (b := false) (y' := 213) (as := [.ref 381, .int i3]) (rest := []) (P := ((mxT 381).1 = mxRc 213 ∧ mxG h)) rfl (by with_unfolding_all rfl) ⟨(congrArg Prod.fst sT_381), G⟩ (Nat.le_of_ble_eq_true rfl) (sp_213 G ?_)
          show mx_wp (d + 3) 215 67 [some (.ref 381), some (.int i1), some (.int i2), some (.int i3), some (.int i4)] [] (W_213 h i3) Q
          obtain ⟨h30, e31⟩ : ∃ z9, z9 = W_213 h i3 := ⟨_, rfl⟩
          rw [← e31]
          have H := H h30 e31
          have K33 : mxK h h30 := e31 ▸ KW_213
          have G32 : mxG h30 := mxK_G K33 G
          refine wp_steps (i' := 68) (ls' := [some (.ref 381), some (.int i1), some (.int i2), some (.int i3), some (.int i4)]) (st' := [.int i4]) (h' := h30) (P := True) 1 rfl rfl trivial ?_
          exact wp_end (o := .inl (some (.int i4))) (h' := h30) (P := True) rfl rfl trivial H
        · skip
          have H := H.2 c29
          refine wp_steps (i' := 60) (ls' := [some (.ref 381), some (.int i1), some (.int i2), some (.int i3), some (.int i4)]) (st' := [.int i1, .int i4]) (h' := h) (P := True) 2 rfl rfl trivial ?_
          refine wp_br (P := True) (c := i4 < i1) (t := 64) (st' := []) rfl rfl trivial (fun c34 => ?_) (fun c34 => ?_)
          · skip
            have H := H.1 c34
            refine wp_steps (i' := 66) (ls' := [some (.ref 381), some (.int i1), some (.int i2), some (.int i3), some (.int i4)]) (st' := [.int i3, .ref 381]) (h' := h) (P := True) 2 rfl rfl trivial ?_
            refine wp_call (b := false) (y' := 213) (as := [.ref 381, .int i3]) (rest := []) (P := ((mxT 381).1 = mxRc 213 ∧ mxG h)) rfl (by with_unfolding_all rfl) ⟨(congrArg Prod.fst sT_381), G⟩ (Nat.le_of_ble_eq_true rfl) (sp_213 G ?_)
            show mx_wp (d + 3) 215 67 [some (.ref 381), some (.int i1), some (.int i2), some (.int i3), some (.int i4)] [] (W_213 h i3) Q
            obtain ⟨h35, e36⟩ : ∃ z9, z9 = W_213 h i3 := ⟨_, rfl⟩
            rw [← e36]
            have H := H h35 e36
            have K38 : mxK h h35 := e36 ▸ KW_213
            have G37 : mxG h35 := mxK_G K38 G
            refine wp_steps (i' := 68) (ls' := [some (.ref 381), some (.int i1), some (.int i2), some (.int i3), some (.int i4)]) (st' := [.int i4]) (h' := h35) (P := True) 1 rfl rfl trivial ?_
            exact wp_end (o := .inl (some (.int i4))) (h' := h35) (P := True) rfl rfl trivial H
          · skip
            have H := H.2 c34
            refine wp_steps (i' := 63) (ls' := [some (.ref 381), some (.int i1), some (.int i2), some (.int i3), some (.int i4)]) (st' := [.int i2, .int i4]) (h' := h) (P := True) 2 rfl rfl trivial ?_
            refine wp_br (P := True) (c := i4 ≤ i2) (t := 67) (st' := []) rfl rfl trivial (fun c39 => ?_) (fun c39 => ?_)
            · have c39 := Int32.not_lt.mpr c39
              have H := H.2 c39
              refine wp_steps (i' := 68) (ls' := [some (.ref 381), some (.int i1), some (.int i2), some (.int i3), some (.int i4)]) (st' := [.int i4]) (h' := h) (P := True) 1 rfl rfl trivial ?_
              exact wp_end (o := .inl (some (.int i4))) (h' := h) (P := True) rfl rfl trivial H
            · have c39 := Int32.not_le.mp c39
              have H := H.1 c39
              refine wp_steps (i' := 66) (ls' := [some (.ref 381), some (.int i1), some (.int i2), some (.int i3), some (.int i4)]) (st' := [.int i3, .ref 381]) (h' := h) (P := True) 2 rfl rfl trivial ?_
              refine wp_call (b := false) (y' := 213) (as := [.ref 381, .int i3]) (rest := []) (P := ((mxT 381).1 = mxRc 213 ∧ mxG h)) rfl (by with_unfolding_all rfl) ⟨(congrArg Prod.fst sT_381), G⟩ (Nat.le_of_ble_eq_true rfl) (sp_213 G ?_)
              show mx_wp (d + 3) 215 67 [some (.ref 381), some (.int i1), some (.int i2), some (.int i3), some (.int i4)] [] (W_213 h i3) Q
              obtain ⟨h40, e41⟩ : ∃ z9, z9 = W_213 h i3 := ⟨_, rfl⟩
              rw [← e41]
              have H := H h40 e41
              have K43 : mxK h h40 := e41 ▸ KW_213
              have G42 : mxG h40 := mxK_G K43 G
              refine wp_steps (i' := 68) (ls' := [some (.ref 381), some (.int i1), some (.int i2), some (.int i3), some (.int i4)]) (st' := [.int i4]) (h' := h40) (P := True) 1 rfl rfl trivial ?_
              exact wp_end (o := .inl (some (.int i4))) (h' := h40) (P := True) rfl rfl trivial H
    · skip
      have H := H.2 c23
      refine wp_steps (i' := 29) (ls' := [some (.ref 381), some (.int i1), some (.int i2), some (.int i3), some (.int i4)]) (st' := [.int 3, .int ((mx_i h 381 11) - i3)]) (h' := h) (P := ((mxT 381).1 = 11 ∧ mxG h) ∧ True) 5 rfl rfl ⟨⟨(congrArg Prod.fst sT_381), G⟩, trivial⟩ ?_
      refine wp_br (P := True) (c := 3 < ((mx_i h 381 11) - i3)) (t := 48) (st' := []) rfl rfl trivial (fun c44 => ?_) (fun c44 => ?_)
      · skip
        have H := H.1 c44
        refine wp_steps (i' := 51) (ls' := [some (.ref 381), some (.int i1), some (.int i2), some (.int i3), some (.int i4)]) (st' := [.int i3, .int (mx_i h 381 11)]) (h' := h) (P := ((mxT 381).1 = 11 ∧ mxG h) ∧ True) 3 rfl rfl ⟨⟨(congrArg Prod.fst sT_381), G⟩, trivial⟩ ?_
        refine wp_br (P := True) (c := (mx_i h 381 11) = i3) (t := 64) (st' := []) rfl rfl trivial (fun c45 => ?_) (fun c45 => ?_)
        · skip
          have H := H.1 c45
          refine wp_steps (i' := 66) (ls' := [some (.ref 381), some (.int i1), some (.int i2), some (.int i3), some (.int i4)]) (st' := [.int i3, .ref 381]) (h' := h) (P := True) 2 rfl rfl trivial ?_
          refine wp_call (b := false) (y' := 213) (as := [.ref 381, .int i3]) (rest := []) (P := ((mxT 381).1 = mxRc 213 ∧ mxG h)) rfl (by with_unfolding_all rfl) ⟨(congrArg Prod.fst sT_381), G⟩ (Nat.le_of_ble_eq_true rfl) (sp_213 G ?_)
          show mx_wp (d + 3) 215 67 [some (.ref 381), some (.int i1), some (.int i2), some (.int i3), some (.int i4)] [] (W_213 h i3) Q
          obtain ⟨h46, e47⟩ : ∃ z9, z9 = W_213 h i3 := ⟨_, rfl⟩
          rw [← e47]
          have H := H h46 e47
          have K49 : mxK h h46 := e47 ▸ KW_213
          have G48 : mxG h46 := mxK_G K49 G
          refine wp_steps (i' := 68) (ls' := [some (.ref 381), some (.int i1), some (.int i2), some (.int i3), some (.int i4)]) (st' := [.int i4]) (h' := h46) (P := True) 1 rfl rfl trivial ?_
          exact wp_end (o := .inl (some (.int i4))) (h' := h46) (P := True) rfl rfl trivial H
        · skip
          have H := H.2 c45
          refine wp_steps (i' := 57) (ls' := [some (.ref 381), some (.int i1), some (.int i2), some (.int i3), some (.int i4)]) (st' := [.int 3, .int ((mx_i h 381 11) - i3)]) (h' := h) (P := ((mxT 381).1 = 11 ∧ mxG h) ∧ True) 5 rfl rfl ⟨⟨(congrArg Prod.fst sT_381), G⟩, trivial⟩ ?_
          refine wp_br (P := True) (c := 3 < ((mx_i h 381 11) - i3)) (t := 64) (st' := []) rfl rfl trivial (fun c50 => ?_) (fun c50 => ?_)
          · skip
            have H := H.1 c50
            refine wp_steps (i' := 66) (ls' := [some (.ref 381), some (.int i1), some (.int i2), some (.int i3), some (.int i4)]) (st' := [.int i3, .ref 381]) (h' := h) (P := True) 2 rfl rfl trivial ?_
            refine wp_call (b := false) (y' := 213) (as := [.ref 381, .int i3]) (rest := []) (P := ((mxT 381).1 = mxRc 213 ∧ mxG h)) rfl (by with_unfolding_all rfl) ⟨(congrArg Prod.fst sT_381), G⟩ (Nat.le_of_ble_eq_true rfl) (sp_213 G ?_)
            show mx_wp (d + 3) 215 67 [some (.ref 381), some (.int i1), some (.int i2), some (.int i3), some (.int i4)] [] (W_213 h i3) Q
            obtain ⟨h51, e52⟩ : ∃ z9, z9 = W_213 h i3 := ⟨_, rfl⟩
            rw [← e52]
            have H := H h51 e52
            have K54 : mxK h h51 := e52 ▸ KW_213
            have G53 : mxG h51 := mxK_G K54 G
            refine wp_steps (i' := 68) (ls' := [some (.ref 381), some (.int i1), some (.int i2), some (.int i3), some (.int i4)]) (st' := [.int i4]) (h' := h51) (P := True) 1 rfl rfl trivial ?_
            exact wp_end (o := .inl (some (.int i4))) (h' := h51) (P := True) rfl rfl trivial H
          · skip
            have H := H.2 c50
            refine wp_steps (i' := 60) (ls' := [some (.ref 381), some (.int i1), some (.int i2), some (.int i3), some (.int i4)]) (st' := [.int i1, .int i4]) (h' := h) (P := True) 2 rfl rfl trivial ?_
            refine wp_br (P := True) (c := i4 < i1) (t := 64) (st' := []) rfl rfl trivial (fun c55 => ?_) (fun c55 => ?_)
            · skip
              have H := H.1 c55
              refine wp_steps (i' := 66) (ls' := [some (.ref 381), some (.int i1), some (.int i2), some (.int i3), some (.int i4)]) (st' := [.int i3, .ref 381]) (h' := h) (P := True) 2 rfl rfl trivial ?_
              refine wp_call (b := false) (y' := 213) (as := [.ref 381, .int i3]) (rest := []) (P := ((mxT 381).1 = mxRc 213 ∧ mxG h)) rfl (by with_unfolding_all rfl) ⟨(congrArg Prod.fst sT_381), G⟩ (Nat.le_of_ble_eq_true rfl) (sp_213 G ?_)
              show mx_wp (d + 3) 215 67 [some (.ref 381), some (.int i1), some (.int i2), some (.int i3), some (.int i4)] [] (W_213 h i3) Q
              obtain ⟨h56, e57⟩ : ∃ z9, z9 = W_213 h i3 := ⟨_, rfl⟩
              rw [← e57]
              have H := H h56 e57
              have K59 : mxK h h56 := e57 ▸ KW_213
              have G58 : mxG h56 := mxK_G K59 G
              refine wp_steps (i' := 68) (ls' := [some (.ref 381), some (.int i1), some (.int i2), some (.int i3), some (.int i4)]) (st' := [.int i4]) (h' := h56) (P := True) 1 rfl rfl trivial ?_
              exact wp_end (o := .inl (some (.int i4))) (h' := h56) (P := True) rfl rfl trivial H
            · skip
              have H := H.2 c55
              refine wp_steps (i' := 63) (ls' := [some (.ref 381), some (.int i1), some (.int i2), some (.int i3), some (.int i4)]) (st' := [.int i2, .int i4]) (h' := h) (P := True) 2 rfl rfl trivial ?_
              refine wp_br (P := True) (c := i4 ≤ i2) (t := 67) (st' := []) rfl rfl trivial (fun c60 => ?_) (fun c60 => ?_)
              · have c60 := Int32.not_lt.mpr c60
                have H := H.2 c60
                refine wp_steps (i' := 68) (ls' := [some (.ref 381), some (.int i1), some (.int i2), some (.int i3), some (.int i4)]) (st' := [.int i4]) (h' := h) (P := True) 1 rfl rfl trivial ?_
                exact wp_end (o := .inl (some (.int i4))) (h' := h) (P := True) rfl rfl trivial H
              · have c60 := Int32.not_le.mp c60
                have H := H.1 c60
                refine wp_steps (i' := 66) (ls' := [some (.ref 381), some (.int i1), some (.int i2), some (.int i3), some (.int i4)]) (st' := [.int i3, .ref 381]) (h' := h) (P := True) 2 rfl rfl trivial ?_
                refine wp_call (b := false) (y' := 213) (as := [.ref 381, .int i3]) (rest := []) (P := ((mxT 381).1 = mxRc 213 ∧ mxG h)) rfl (by with_unfolding_all rfl) ⟨(congrArg Prod.fst sT_381), G⟩ (Nat.le_of_ble_eq_true rfl) (sp_213 G ?_)
                show mx_wp (d + 3) 215 67 [some (.ref 381), some (.int i1), some (.int i2), some (.int i3), some (.int i4)] [] (W_213 h i3) Q
                obtain ⟨h61, e62⟩ : ∃ z9, z9 = W_213 h i3 := ⟨_, rfl⟩
                rw [← e62]
                have H := H h61 e62
                have K64 : mxK h h61 := e62 ▸ KW_213
                have G63 : mxG h61 := mxK_G K64 G
                refine wp_steps (i' := 68) (ls' := [some (.ref 381), some (.int i1), some (.int i2), some (.int i3), some (.int i4)]) (st' := [.int i4]) (h' := h61) (P := True) 1 rfl rfl trivial ?_
                exact wp_end (o := .inl (some (.int i4))) (h' := h61) (P := True) rfl rfl trivial H
      · skip
        have H := H.2 c44
        refine wp_steps (i' := 36) (ls' := [some (.ref 381), some (.int i1), some (.int i2), some (.int i3), some (.int i4)]) (st' := [.int (mx_i h 381 11), .ref 381, .int (10 * i4)]) (h' := h) (P := ((mxT 381).1 = 11 ∧ mxG h) ∧ True) 6 rfl rfl ⟨⟨(congrArg Prod.fst sT_381), G⟩, trivial⟩ ?_
        refine wp_call (b := false) (y' := 209) (as := [.ref 381, .int (mx_i h 381 11)]) (rest := [.int (10 * i4)]) (P := ((mxT 381).1 = mxRc 209 ∧ mxG h)) rfl (by with_unfolding_all rfl) ⟨(congrArg Prod.fst sT_381), G⟩ (Nat.le_of_ble_eq_true rfl) (sp_209 G o22 ?_)
        show mx_wp (d + 3) 215 37 [some (.ref 381), some (.int i1), some (.int i2), some (.int i3), some (.int i4)] [.int (V_209 h (mx_i h 381 11)), .int (10 * i4)] h Q
        refine wp_steps (i' := 47) (ls' := [some (.ref 381), some (.int i1), some (.int i2), some (.int i3), some (.int (((10 * i4) + (V_209 h (mx_i h 381 11))) - 48))]) (st' := []) (h' := mx_wi h 381 11 ((mx_i h 381 11) + 1)) (P := ((mxT 381).1 = 11 ∧ mxG h) ∧ ((mxT 381).1 = 11 ∧ mxG h) ∧ True) 10 rfl rfl ⟨⟨(congrArg Prod.fst sT_381), G⟩, ⟨(congrArg Prod.fst sT_381), G⟩, trivial⟩ ?_
        obtain ⟨h65, e66⟩ : ∃ z9, z9 = mx_wi h 381 11 ((mx_i h 381 11) + 1) := ⟨_, rfl⟩
        rw [← e66]
        have H := H h65 e66
        have G67 : mxG h65 := e66 ▸ mxG_wi G
        refine wp_J (j := 11) (st' := []) rfl rfl ?_
        exact H 
/-! 32: StoneBacks$LawText.takeKind(LStoneBacks$Tape;)I -/
set_option maxRecDepth 8000 in
theorem trn_32_0 {d : Nat} {h : mxH} {Q : mxO → mxH → Prop}  (G : mxG h)  (H : (okC h ∧ (3 ≤ 13 ∧ 13 < 29) ∧ (∀ (x3 : Int32) (h4 : mxH), p96 13 h x3 h4 → ((x3 = 0 → (okC h4 ∧ (3 ≤ 14 ∧ 14 < 29) ∧ (∀ (x10 : Int32) (h11 : mxH), p96 14 h4 x10 h11 → ((x10 = 0 → (okC h11 ∧ (3 ≤ 15 ∧ 15 < 29) ∧ (∀ (x17 : Int32) (h18 : mxH), p96 15 h11 x17 h18 → (∀ (v21 : Int32), v21 = ((if x17 = 0 then (-1) else 2) : Int32) → Q (.inl (some (.int v21))) h18)))) ∧ (¬ x10 = 0 → Q (.inl (some (.int 1))) h11))))) ∧ (¬ x3 = 0 → Q (.inl (some (.int 0))) h4))))) : mx_wp (d + 1) 32 0 (mx_fr 32 [.ref 101]) [] h Q := by
  show mx_wp (d + 1) 32 0 [some (.ref 101)] [] h Q
  refine wp_steps (i' := 2) (ls' := [some (.ref 101)]) (st' := [.ref 13, .ref 101]) (h' := h) (P := True) 2 rfl rfl trivial ?_
  obtain ⟨o1, o2, H⟩ := H
  refine wp_call (b := false) (y' := 96) (as := [.ref 101, .ref 13]) (rest := []) (P := ((mxT 101).1 = mxRc 96 ∧ mxG h)) rfl (by with_unfolding_all rfl) ⟨(congrArg Prod.fst sT_101), G⟩ (Nat.le_of_ble_eq_true rfl) (spm_96 G o1 o2 ?_)
  intro x3 h4 p5
  show mx_wp (d + 1) 32 3 [some (.ref 101)] [.int x3] h4 Q
  have H := H x3 h4 p5
  have G6 : mxG h4 := mxK_G (mvC_K p5.1) G
  refine wp_br (P := True) (c := x3 = 0) (t := 6) (st' := []) rfl rfl trivial (fun c7 => ?_) (fun c7 => ?_)
  · skip
    have H := H.1 c7
    refine wp_steps (i' := 8) (ls' := [some (.ref 101)]) (st' := [.ref 14, .ref 101]) (h' := h4) (P := True) 2 rfl rfl trivial ?_
    obtain ⟨o8, o9, H⟩ := H
    refine wp_call (b := false) (y' := 96) (as := [.ref 101, .ref 14]) (rest := []) (P := ((mxT 101).1 = mxRc 96 ∧ mxG h4)) rfl (by with_unfolding_all rfl) ⟨(congrArg Prod.fst sT_101), G6⟩ (Nat.le_of_ble_eq_true rfl) (spm_96 G6 o8 o9 ?_)
    intro x10 h11 p12
    show mx_wp (d + 1) 32 9 [some (.ref 101)] [.int x10] h11 Q
    have H := H x10 h11 p12
    have G13 : mxG h11 := mxK_G (mvC_K p12.1) G6
    refine wp_br (P := True) (c := x10 = 0) (t := 12) (st' := []) rfl rfl trivial (fun c14 => ?_) (fun c14 => ?_)
    · skip
      have H := H.1 c14
      refine wp_steps (i' := 14) (ls' := [some (.ref 101)]) (st' := [.ref 15, .ref 101]) (h' := h11) (P := True) 2 rfl rfl trivial ?_
      obtain ⟨o15, o16, H⟩ := H
      refine wp_call (b := false) (y' := 96) (as := [.ref 101, .ref 15]) (rest := []) (P := ((mxT 101).1 = mxRc 96 ∧ mxG h11)) rfl (by with_unfolding_all rfl) ⟨(congrArg Prod.fst sT_101), G13⟩ (Nat.le_of_ble_eq_true rfl) (spm_96 G13 o15 o16 ?_)
      intro x17 h18 p19
      show mx_wp (d + 1) 32 15 [some (.ref 101)] [.int x17] h18 Q
      have H := H x17 h18 p19
      have G20 : mxG h18 := mxK_G (mvC_K p19.1) G13
      have J : ∀ (v21 : Int32) (ev21 : v21 = ((if x17 = 0 then (-1) else 2) : Int32)), mx_wp (d + 1) 32 19 [some (.ref 101)] [.int v21] h18 Q := by
        intro v21 ev21
        have H := H v21 ev21
        exact wp_end (o := .inl (some (.int v21))) (h' := h18) (P := True) rfl rfl trivial H
      refine wp_br (P := True) (c := x17 = 0) (t := 18) (st' := []) rfl rfl trivial (fun c22 => ?_) (fun c22 => ?_)
      · skip
        refine wp_steps (i' := 19) (ls' := [some (.ref 101)]) (st' := [.int (-1)]) (h' := h18) (P := True) 1 rfl rfl trivial ?_
        exact J _ (by rw [if_pos c22])
      · skip
        refine wp_steps (i' := 17) (ls' := [some (.ref 101)]) (st' := [.int 2]) (h' := h18) (P := True) 1 rfl rfl trivial ?_
        refine wp_J (j := 19) (st' := [.int 2]) rfl rfl ?_
        exact J _ (by rw [if_neg c22])
    · skip
      have H := H.2 c14
      refine wp_steps (i' := 11) (ls' := [some (.ref 101)]) (st' := [.int 1]) (h' := h11) (P := True) 1 rfl rfl trivial ?_
      exact wp_end (o := .inl (some (.int 1))) (h' := h11) (P := True) rfl rfl trivial H
  · skip
    have H := H.2 c7
    refine wp_steps (i' := 5) (ls' := [some (.ref 101)]) (st' := [.int 0]) (h' := h4) (P := True) 1 rfl rfl trivial ?_
    exact wp_end (o := .inl (some (.int 0))) (h' := h4) (P := True) rfl rfl trivial H
/-! 34: StoneBacks$LawText.readOpeners(LStoneBacks$Tape;)Z -/
set_option maxRecDepth 8000 in
theorem trn_34_0 {d : Nat} {h : mxH} {Q : mxO → mxH → Prop}  (G : mxG h)  (H : H_34_2 (d + 2) h 0 Q) : mx_wp (d + 2) 34 0 (mx_fr 34 [.ref 107, .ref 101]) [] h Q := by
  show mx_wp (d + 2) 34 0 [some (.ref 107), some (.ref 101), none, none] [] h Q
  refine wp_steps (i' := 2) (ls' := [some (.ref 107), some (.ref 101), some (.int 0), none]) (st' := []) (h' := h) (P := True) 2 rfl rfl trivial ?_
  exact H _
set_option maxRecDepth 8000 in
theorem trn_34_2 {d : Nat} {h : mxH} {Q : mxO → mxH → Prop}  {i2 : Int32} (G : mxG h)  (H : ((6 < i2 → Q (.inl (some (.int 0))) h) ∧ (¬ 6 < i2 → (vp_in (mx_i h 101 3) 401 ∧ ((((mx_r h 106 (mx_i h 101 3).toNatClampNeg) = 0 ∨ (3 ≤ (mx_r h 106 (mx_i h 101 3).toNatClampNeg) ∧ (mx_r h 106 (mx_i h 101 3).toNatClampNeg) < 29)) ∧ (19 = 0 ∨ (3 ≤ 19 ∧ 19 < 29))) ∧ True) ∧ (((V_95 h 19) = 0 → ((((mx_i h 103 (mx_i h 101 3).toNatClampNeg) = 1 → (vp_in (mx_i h 104 (mx_i h 101 3).toNatClampNeg) 400 ∧ True)) ∧ (¬ (mx_i h 103 (mx_i h 101 3).toNatClampNeg) = 1 → True)) ∧ (((V_97 h (40 : Int32)) = 0 → Q (.inl (some (.int 1))) h) ∧ (¬ (V_97 h (40 : Int32)) = 0 → (((mx_i h 107 2) < 6 → (∀ h37, h37 = mx_wi h 107 2 ((mx_i h 107 2) + 1) → (((V_95 h 19) = 0 → (okC h37 ∧ (∀ (x42 : Int32) (h43 : mxH), p98 (40 : Int32) h37 x42 h43 → (cB (mx_i h43 107 1) 63 ∧ (∀ (h48 : mxH), p37 (0 : Int32) h43 h48 → (∀ h51, h51 = mx_wi h48 107 3 ((mx_i h48 107 3) + 1) → H_34_2 (d + 2) h51 (i2 + 1) Q)))))) ∧ (¬ (V_95 h 19) = 0 → (okC h37 ∧ (3 ≤ 19 ∧ 19 < 29) ∧ (∀ (x56 : Int32) (h57 : mxH), p96 19 h37 x56 h57 → (cB (mx_i h57 107 1) 63 ∧ (∀ (h62 : mxH), p37 (1009 : Int32) h57 h62 → H_34_2 (d + 2) h62 (i2 + 1) Q)))))))) ∧ (¬ (mx_i h 107 2) < 6 → Q (.inl (some (.int 0))) h)))))) ∧ (¬ (V_95 h 19) = 0 → (((mx_i h 107 2) < 6 → (∀ h6, h6 = mx_wi h 107 2 ((mx_i h 107 2) + 1) → (((V_95 h 19) = 0 → (okC h6 ∧ (∀ (x11 : Int32) (h12 : mxH), p98 (40 : Int32) h6 x11 h12 → (cB (mx_i h12 107 1) 63 ∧ (∀ (h17 : mxH), p37 (0 : Int32) h12 h17 → (∀ h20, h20 = mx_wi h17 107 3 ((mx_i h17 107 3) + 1) → H_34_2 (d + 2) h20 (i2 + 1) Q)))))) ∧ (¬ (V_95 h 19) = 0 → (okC h6 ∧ (3 ≤ 19 ∧ 19 < 29) ∧ (∀ (x25 : Int32) (h26 : mxH), p96 19 h6 x25 h26 → (cB (mx_i h26 107 1) 63 ∧ (∀ (h31 : mxH), p37 (1009 : Int32) h26 h31 → H_34_2 (d + 2) h31 (i2 + 1) Q)))))))) ∧ (¬ (mx_i h 107 2) < 6 → Q (.inl (some (.int 0))) h)))))))) : H_34_2 (d + 2) h i2 Q := by
  intro w3
  show mx_wp (d + 2) 34 2 [some (.ref 107), some (.ref 101), some (.int i2), w3] [] h Q
  refine wp_steps (i' := 4) (ls' := [some (.ref 107), some (.ref 101), some (.int i2), w3]) (st' := [.int 6, .int i2]) (h' := h) (P := True) 2 rfl rfl trivial ?_
  refine wp_br (P := True) (c := 6 < i2) (t := 54) (st' := []) rfl rfl trivial (fun c1 => ?_) (fun c1 => ?_)
  · skip
    have H := H.1 c1
    refine wp_steps (i' := 55) (ls' := [some (.ref 107), some (.ref 101), some (.int i2), w3]) (st' := [.int 0]) (h' := h) (P := True) 1 rfl rfl trivial ?_
    exact wp_end (o := .inl (some (.int 0))) (h' := h) (P := ((0 : Int32) = 0 ∨ (0 : Int32) = 1)) rfl rfl (Or.inl rfl) H
  · skip
    have H := H.2 c1
    refine wp_steps (i' := 7) (ls' := [some (.ref 107), some (.ref 101), some (.int i2), w3]) (st' := [.ref 19, .ref 101]) (h' := h) (P := True) 2 rfl rfl trivial ?_
    obtain ⟨o2, o3, H⟩ := H
    refine wp_call (b := false) (y' := 95) (as := [.ref 101, .ref 19]) (rest := []) (P := ((mxT 101).1 = mxRc 95 ∧ mxG h)) rfl (by with_unfolding_all rfl) ⟨(congrArg Prod.fst sT_101), G⟩ (Nat.le_of_ble_eq_true rfl) (sp_95 G o2 o3 ?_)
    show mx_wp (d + 2) 34 8 [some (.ref 107), some (.ref 101), some (.int i2), w3] [.int (V_95 h 19)] h Q
    refine wp_steps (i' := 10) (ls' := [some (.ref 107), some (.ref 101), some (.int i2), some (.int (V_95 h 19))]) (st' := [.int (V_95 h 19)]) (h' := h) (P := True) 2 rfl rfl trivial ?_
    refine wp_br (P := True) (c := ¬ (V_95 h 19) = 0) (t := 17) (st' := []) rfl rfl trivial (fun c4 => ?_) (fun c4 => ?_)
    · skip
      have H := H.2 c4
      refine wp_steps (i' := 20) (ls' := [some (.ref 107), some (.ref 101), some (.int i2), some (.int (V_95 h 19))]) (st' := [.int 6, .int (mx_i h 107 2)]) (h' := h) (P := ((mxT 107).1 = 4 ∧ mxG h) ∧ True) 3 rfl rfl ⟨⟨(congrArg Prod.fst sT_107), G⟩, trivial⟩ ?_
      refine wp_br (P := True) (c := (mx_i h 107 2) < 6) (t := 23) (st' := []) rfl rfl trivial (fun c5 => ?_) (fun c5 => ?_)
      · skip
        have H := H.1 c5
        refine wp_steps (i' := 29) (ls' := [some (.ref 107), some (.ref 101), some (.int i2), some (.int (V_95 h 19))]) (st' := []) (h' := mx_wi h 107 2 ((mx_i h 107 2) + 1)) (P := ((mxT 107).1 = 4 ∧ mxG h) ∧ ((mxT 107).1 = 4 ∧ mxG h) ∧ True) 6 rfl rfl ⟨⟨(congrArg Prod.fst sT_107), G⟩, ⟨(congrArg Prod.fst sT_107), G⟩, trivial⟩ ?_
        obtain ⟨h6, e7⟩ : ∃ z9, z9 = mx_wi h 107 2 ((mx_i h 107 2) + 1) := ⟨_, rfl⟩
        rw [← e7]
        have H := H h6 e7
        have G8 : mxG h6 := e7 ▸ mxG_wi G
        refine wp_steps (i' := 30) (ls' := [some (.ref 107), some (.ref 101), some (.int i2), some (.int (V_95 h 19))]) (st' := [.int (V_95 h 19)]) (h' := h6) (P := True) 1 rfl rfl trivial ?_
        refine wp_br (P := True) (c := (V_95 h 19) = 0) (t := 39) (st' := []) rfl rfl trivial (fun c9 => ?_) (fun c9 => ?_)
        · skip
          have H := H.1 c9
          refine wp_steps (i' := 41) (ls' := [some (.ref 107), some (.ref 101), some (.int i2), some (.int (V_95 h 19))]) (st' := [.int 40, .ref 101]) (h' := h6) (P := True) 2 rfl rfl trivial ?_
          obtain ⟨o10, H⟩ := H
          refine wp_call (b := false) (y' := 98) (as := [.ref 101, .int 40]) (rest := []) (P := ((mxT 101).1 = mxRc 98 ∧ mxG h6)) rfl (by with_unfolding_all rfl) ⟨(congrArg Prod.fst sT_101), G8⟩ (Nat.le_of_ble_eq_true rfl) (spm_98 G8 o10 ?_)
          intro x11 h12 p13
          show mx_wp (d + 2) 34 42 [some (.ref 107), some (.ref 101), some (.int i2), some (.int (V_95 h 19))] [.int x11] h12 Q
          have H := H x11 h12 p13
          have G14 : mxG h12 := mxK_G (mvC_K p13.1) G8
          refine wp_steps (i' := 45) (ls' := [some (.ref 107), some (.ref 101), some (.int i2), some (.int (V_95 h 19))]) (st' := [.int 0, .ref 107]) (h' := h12) (P := True) 3 rfl rfl trivial ?_
          obtain ⟨o15, H⟩ := H
          refine wp_call (b := false) (y' := 37) (as := [.ref 107, .int 0]) (rest := []) (P := ((mxT 107).1 = mxRc 37 ∧ mxG h12)) rfl (by with_unfolding_all rfl) ⟨(congrArg Prod.fst sT_107), G14⟩ (Nat.le_of_ble_eq_true rfl) (spm_37 G14 o15 ?_)
          intro h17 p18
          show mx_wp (d + 2) 34 46 [some (.ref 107), some (.ref 101), some (.int i2), some (.int (V_95 h 19))] [] h17 Q
          have H := H h17 p18
          have G19 : mxG h17 := mxU_G p18.1 G14
          refine wp_steps (i' := 52) (ls' := [some (.ref 107), some (.ref 101), some (.int i2), some (.int (V_95 h 19))]) (st' := []) (h' := mx_wi h17 107 3 ((mx_i h17 107 3) + 1)) (P := ((mxT 107).1 = 4 ∧ mxG h17) ∧ ((mxT 107).1 = 4 ∧ mxG h17) ∧ True) 6 rfl rfl ⟨⟨(congrArg Prod.fst sT_107), G19⟩, ⟨(congrArg Prod.fst sT_107), G19⟩, trivial⟩ ?_
          obtain ⟨h20, e21⟩ : ∃ z9, z9 = mx_wi h17 107 3 ((mx_i h17 107 3) + 1) := ⟨_, rfl⟩
          rw [← e21]
          have H := H h20 e21
          have G22 : mxG h20 := e21 ▸ mxG_wi G19
          refine wp_steps (i' := 53) (ls' := [some (.ref 107), some (.ref 101), some (.int (i2 + 1)), some (.int (V_95 h 19))]) (st' := []) (h' := h20) (P := True) 1 rfl rfl trivial ?_
          refine wp_J (j := 2) (st' := []) rfl rfl ?_
          exact H _
        · skip
          have H := H.2 c9
          refine wp_steps (i' := 33) (ls' := [some (.ref 107), some (.ref 101), some (.int i2), some (.int (V_95 h 19))]) (st' := [.ref 19, .ref 101]) (h' := h6) (P := True) 2 rfl rfl trivial ?_
          obtain ⟨o23, o24, H⟩ := H
          refine wp_call (b := false) (y' := 96) (as := [.ref 101, .ref 19]) (rest := []) (P := ((mxT 101).1 = mxRc 96 ∧ mxG h6)) rfl (by with_unfolding_all rfl) ⟨(congrArg Prod.fst sT_101), G8⟩ (Nat.le_of_ble_eq_true rfl) (spm_96 G8 o23 o24 ?_)
          intro x25 h26 p27
          show mx_wp (d + 2) 34 34 [some (.ref 107), some (.ref 101), some (.int i2), some (.int (V_95 h 19))] [.int x25] h26 Q
          have H := H x25 h26 p27
          have G28 : mxG h26 := mxK_G (mvC_K p27.1) G8
          refine wp_steps (i' := 37) (ls' := [some (.ref 107), some (.ref 101), some (.int i2), some (.int (V_95 h 19))]) (st' := [.int 1009, .ref 107]) (h' := h26) (P := True) 3 rfl rfl trivial ?_
          obtain ⟨o29, H⟩ := H
          refine wp_call (b := false) (y' := 37) (as := [.ref 107, .int 1009]) (rest := []) (P := ((mxT 107).1 = mxRc 37 ∧ mxG h26)) rfl (by with_unfolding_all rfl) ⟨(congrArg Prod.fst sT_107), G28⟩ (Nat.le_of_ble_eq_true rfl) (spm_37 G28 o29 ?_)
          intro h31 p32
          show mx_wp (d + 2) 34 38 [some (.ref 107), some (.ref 101), some (.int i2), some (.int (V_95 h 19))] [] h31 Q
          have H := H h31 p32
          have G33 : mxG h31 := mxU_G p32.1 G28
          refine wp_J (j := 52) (st' := []) rfl rfl ?_
          refine wp_steps (i' := 53) (ls' := [some (.ref 107), some (.ref 101), some (.int (i2 + 1)), some (.int (V_95 h 19))]) (st' := []) (h' := h31) (P := True) 1 rfl rfl trivial ?_
          refine wp_J (j := 2) (st' := []) rfl rfl ?_
          exact H _
      · skip
        have H := H.2 c5
        refine wp_steps (i' := 22) (ls' := [some (.ref 107), some (.ref 101), some (.int i2), some (.int (V_95 h 19))]) (st' := [.int 0]) (h' := h) (P := True) 1 rfl rfl trivial ?_
        exact wp_end (o := .inl (some (.int 0))) (h' := h) (P := ((0 : Int32) = 0 ∨ (0 : Int32) = 1)) rfl rfl (Or.inl rfl) H
    · have c4 := Decidable.of_not_not c4
      have H := H.1 c4
      refine wp_steps (i' := 13) (ls' := [some (.ref 107), some (.ref 101), some (.int i2), some (.int (V_95 h 19))]) (st' := [.int 40, .ref 101]) (h' := h) (P := True) 2 rfl rfl trivial ?_
      obtain ⟨o34, H⟩ := H
      refine wp_call (b := false) (y' := 97) (as := [.ref 101, .int 40]) (rest := []) (P := ((mxT 101).1 = mxRc 97 ∧ mxG h)) rfl (by with_unfolding_all rfl) ⟨(congrArg Prod.fst sT_101), G⟩ (Nat.le_of_ble_eq_true rfl) (sp_97 G o2 o34 ?_)
      show mx_wp (d + 2) 34 14 [some (.ref 107), some (.ref 101), some (.int i2), some (.int (V_95 h 19))] [.int (V_97 h (40 : Int32))] h Q
      refine wp_br (P := True) (c := ¬ (V_97 h (40 : Int32)) = 0) (t := 17) (st' := []) rfl rfl trivial (fun c35 => ?_) (fun c35 => ?_)
      · skip
        have H := H.2 c35
        refine wp_steps (i' := 20) (ls' := [some (.ref 107), some (.ref 101), some (.int i2), some (.int (V_95 h 19))]) (st' := [.int 6, .int (mx_i h 107 2)]) (h' := h) (P := ((mxT 107).1 = 4 ∧ mxG h) ∧ True) 3 rfl rfl ⟨⟨(congrArg Prod.fst sT_107), G⟩, trivial⟩ ?_
        refine wp_br (P := True) (c := (mx_i h 107 2) < 6) (t := 23) (st' := []) rfl rfl trivial (fun c36 => ?_) (fun c36 => ?_)
        · skip
          have H := H.1 c36
          refine wp_steps (i' := 29) (ls' := [some (.ref 107), some (.ref 101), some (.int i2), some (.int (V_95 h 19))]) (st' := []) (h' := mx_wi h 107 2 ((mx_i h 107 2) + 1)) (P := ((mxT 107).1 = 4 ∧ mxG h) ∧ ((mxT 107).1 = 4 ∧ mxG h) ∧ True) 6 rfl rfl ⟨⟨(congrArg Prod.fst sT_107), G⟩, ⟨(congrArg Prod.fst sT_107), G⟩, trivial⟩ ?_
          obtain ⟨h37, e38⟩ : ∃ z9, z9 = mx_wi h 107 2 ((mx_i h 107 2) + 1) := ⟨_, rfl⟩
          rw [← e38]
          have H := H h37 e38
          have G39 : mxG h37 := e38 ▸ mxG_wi G
          refine wp_steps (i' := 30) (ls' := [some (.ref 107), some (.ref 101), some (.int i2), some (.int (V_95 h 19))]) (st' := [.int (V_95 h 19)]) (h' := h37) (P := True) 1 rfl rfl trivial ?_
          refine wp_br (P := True) (c := (V_95 h 19) = 0) (t := 39) (st' := []) rfl rfl trivial (fun c40 => ?_) (fun c40 => ?_)
          · skip
            have H := H.1 c40
            refine wp_steps (i' := 41) (ls' := [some (.ref 107), some (.ref 101), some (.int i2), some (.int (V_95 h 19))]) (st' := [.int 40, .ref 101]) (h' := h37) (P := True) 2 rfl rfl trivial ?_
            obtain ⟨o41, H⟩ := H
            refine wp_call (b := false) (y' := 98) (as := [.ref 101, .int 40]) (rest := []) (P := ((mxT 101).1 = mxRc 98 ∧ mxG h37)) rfl (by with_unfolding_all rfl) ⟨(congrArg Prod.fst sT_101), G39⟩ (Nat.le_of_ble_eq_true rfl) (spm_98 G39 o41 ?_)
            intro x42 h43 p44
            show mx_wp (d + 2) 34 42 [some (.ref 107), some (.ref 101), some (.int i2), some (.int (V_95 h 19))] [.int x42] h43 Q
            have H := H x42 h43 p44
            have G45 : mxG h43 := mxK_G (mvC_K p44.1) G39
            refine wp_steps (i' := 45) (ls' := [some (.ref 107), some (.ref 101), some (.int i2), some (.int (V_95 h 19))]) (st' := [.int 0, .ref 107]) (h' := h43) (P := True) 3 rfl rfl trivial ?_
            obtain ⟨o46, H⟩ := H
            refine wp_call (b := false) (y' := 37) (as := [.ref 107, .int 0]) (rest := []) (P := ((mxT 107).1 = mxRc 37 ∧ mxG h43)) rfl (by with_unfolding_all rfl) ⟨(congrArg Prod.fst sT_107), G45⟩ (Nat.le_of_ble_eq_true rfl) (spm_37 G45 o46 ?_)
            intro h48 p49
            show mx_wp (d + 2) 34 46 [some (.ref 107), some (.ref 101), some (.int i2), some (.int (V_95 h 19))] [] h48 Q
            have H := H h48 p49
            have G50 : mxG h48 := mxU_G p49.1 G45
            refine wp_steps (i' := 52) (ls' := [some (.ref 107), some (.ref 101), some (.int i2), some (.int (V_95 h 19))]) (st' := []) (h' := mx_wi h48 107 3 ((mx_i h48 107 3) + 1)) (P := ((mxT 107).1 = 4 ∧ mxG h48) ∧ ((mxT 107).1 = 4 ∧ mxG h48) ∧ True) 6 rfl rfl ⟨⟨(congrArg Prod.fst sT_107), G50⟩, ⟨(congrArg Prod.fst sT_107), G50⟩, trivial⟩ ?_
            obtain ⟨h51, e52⟩ : ∃ z9, z9 = mx_wi h48 107 3 ((mx_i h48 107 3) + 1) := ⟨_, rfl⟩
            rw [← e52]
            have H := H h51 e52
            have G53 : mxG h51 := e52 ▸ mxG_wi G50
            refine wp_steps (i' := 53) (ls' := [some (.ref 107), some (.ref 101), some (.int (i2 + 1)), some (.int (V_95 h 19))]) (st' := []) (h' := h51) (P := True) 1 rfl rfl trivial ?_
            refine wp_J (j := 2) (st' := []) rfl rfl ?_
            exact H _
          · skip
            have H := H.2 c40
            refine wp_steps (i' := 33) (ls' := [some (.ref 107), some (.ref 101), some (.int i2), some (.int (V_95 h 19))]) (st' := [.ref 19, .ref 101]) (h' := h37) (P := True) 2 rfl rfl trivial ?_
            obtain ⟨o54, o55, H⟩ := H
            refine wp_call (b := false) (y' := 96) (as := [.ref 101, .ref 19]) (rest := []) (P := ((mxT 101).1 = mxRc 96 ∧ mxG h37)) rfl (by with_unfolding_all rfl) ⟨(congrArg Prod.fst sT_101), G39⟩ (Nat.le_of_ble_eq_true rfl) (spm_96 G39 o54 o55 ?_)
            intro x56 h57 p58
            show mx_wp (d + 2) 34 34 [some (.ref 107), some (.ref 101), some (.int i2), some (.int (V_95 h 19))] [.int x56] h57 Q
            have H := H x56 h57 p58
            have G59 : mxG h57 := mxK_G (mvC_K p58.1) G39
            refine wp_steps (i' := 37) (ls' := [some (.ref 107), some (.ref 101), some (.int i2), some (.int (V_95 h 19))]) (st' := [.int 1009, .ref 107]) (h' := h57) (P := True) 3 rfl rfl trivial ?_
            obtain ⟨o60, H⟩ := H
            refine wp_call (b := false) (y' := 37) (as := [.ref 107, .int 1009]) (rest := []) (P := ((mxT 107).1 = mxRc 37 ∧ mxG h57)) rfl (by with_unfolding_all rfl) ⟨(congrArg Prod.fst sT_107), G59⟩ (Nat.le_of_ble_eq_true rfl) (spm_37 G59 o60 ?_)
            intro h62 p63
            show mx_wp (d + 2) 34 38 [some (.ref 107), some (.ref 101), some (.int i2), some (.int (V_95 h 19))] [] h62 Q
            have H := H h62 p63
            have G64 : mxG h62 := mxU_G p63.1 G59
            refine wp_J (j := 52) (st' := []) rfl rfl ?_
            refine wp_steps (i' := 53) (ls' := [some (.ref 107), some (.ref 101), some (.int (i2 + 1)), some (.int (V_95 h 19))]) (st' := []) (h' := h62) (P := True) 1 rfl rfl trivial ?_
            refine wp_J (j := 2) (st' := []) rfl rfl ?_
            exact H _
        · skip
          have H := H.2 c36
          refine wp_steps (i' := 22) (ls' := [some (.ref 107), some (.ref 101), some (.int i2), some (.int (V_95 h 19))]) (st' := [.int 0]) (h' := h) (P := True) 1 rfl rfl trivial ?_
          exact wp_end (o := .inl (some (.int 0))) (h' := h) (P := ((0 : Int32) = 0 ∨ (0 : Int32) = 1)) rfl rfl (Or.inl rfl) H
      · have c35 := Decidable.of_not_not c35
        have H := H.1 c35
        refine wp_steps (i' := 16) (ls' := [some (.ref 107), some (.ref 101), some (.int i2), some (.int (V_95 h 19))]) (st' := [.int 1]) (h' := h) (P := True) 1 rfl rfl trivial ?_
        exact wp_end (o := .inl (some (.int 1))) (h' := h) (P := ((1 : Int32) = 0 ∨ (1 : Int32) = 1)) rfl rfl (Or.inr rfl) H
/-! 39: StoneBacks$LawText.closeNots(LStoneBacks$Law;)V -/
set_option maxRecDepth 8000 in
theorem trn_39_0 {d : Nat} {h : mxH} {Q : mxO → mxH → Prop} {b : Nat} (G : mxG h) (hVb : (mxT b).1 = 3) (H : H_39_2 (d + 1) h b 0 Q) : mx_wp (d + 1) 39 0 (mx_fr 39 [.ref 107, .ref b]) [] h Q := by
  show mx_wp (d + 1) 39 0 [some (.ref 107), some (.ref b), none] [] h Q
  refine wp_steps (i' := 2) (ls' := [some (.ref 107), some (.ref b), some (.int 0)]) (st' := []) (h' := h) (P := True) 2 rfl rfl trivial ?_
  exact H 
set_option maxRecDepth 8000 in
theorem trn_39_2 {d : Nat} {h : mxH} {Q : mxO → mxH → Prop} {b : Nat} {i2 : Int32} (G : mxG h) (hVb : (mxT b).1 = 3) (H : ((i2 < 6 → (((0 < (mx_i h 107 1) → (vp_in ((mx_i h 107 1) - 1) 64 ∧ True)) ∧ (¬ 0 < (mx_i h 107 1) → True)) ∧ (((V_38 h (1009 : Int32)) = 0 → Q (.inl none) h) ∧ (¬ (V_38 h (1009 : Int32)) = 0 → (cB (mx_i h b 2) 400 ∧ (∀ (h6 : mxH), p23 b (1009 : Int32) h h6 → (∀ h9, h9 = mx_wi h6 107 1 ((mx_i h6 107 1) - 1) → (∀ h12, h12 = mx_wi h9 107 2 ((mx_i h9 107 2) - 1) → H_39_2 (d + 1) h12 b (i2 + 1) Q)))))))) ∧ (¬ i2 < 6 → Q (.inl none) h))) : H_39_2 (d + 1) h b i2 Q := by
  show mx_wp (d + 1) 39 2 [some (.ref 107), some (.ref b), some (.int i2)] [] h Q
  refine wp_steps (i' := 4) (ls' := [some (.ref 107), some (.ref b), some (.int i2)]) (st' := [.int 6, .int i2]) (h' := h) (P := True) 2 rfl rfl trivial ?_
  refine wp_br (P := True) (c := 6 ≤ i2) (t := 26) (st' := []) rfl rfl trivial (fun c1 => ?_) (fun c1 => ?_)
  · have c1 := Int32.not_lt.mpr c1
    have H := H.2 c1
    exact wp_end (o := .inl none) (h' := h) (P := True) rfl rfl trivial H
  · have c1 := Int32.not_le.mp c1
    have H := H.1 c1
    refine wp_steps (i' := 7) (ls' := [some (.ref 107), some (.ref b), some (.int i2)]) (st' := [.int 1009, .ref 107]) (h' := h) (P := True) 2 rfl rfl trivial ?_
    obtain ⟨o2, H⟩ := H
    refine wp_call (b := false) (y' := 38) (as := [.ref 107, .int 1009]) (rest := []) (P := ((mxT 107).1 = mxRc 38 ∧ mxG h)) rfl (by with_unfolding_all rfl) ⟨(congrArg Prod.fst sT_107), G⟩ (Nat.le_of_ble_eq_true rfl) (sp_38 G o2 ?_)
    show mx_wp (d + 1) 39 8 [some (.ref 107), some (.ref b), some (.int i2)] [.int (V_38 h (1009 : Int32))] h Q
    refine wp_br (P := True) (c := (V_38 h (1009 : Int32)) = 0) (t := 26) (st' := []) rfl rfl trivial (fun c3 => ?_) (fun c3 => ?_)
    · skip
      have H := H.1 c3
      exact wp_end (o := .inl none) (h' := h) (P := True) rfl rfl trivial H
    · skip
      have H := H.2 c3
      refine wp_steps (i' := 11) (ls' := [some (.ref 107), some (.ref b), some (.int i2)]) (st' := [.int 1009, .ref b]) (h' := h) (P := True) 2 rfl rfl trivial ?_
      obtain ⟨o4, H⟩ := H
      refine wp_call (b := false) (y' := 23) (as := [.ref b, .int 1009]) (rest := []) (P := ((mxT b).1 = mxRc 23 ∧ mxG h)) rfl (by with_unfolding_all rfl) ⟨(congrArg Prod.fst (sL_0 hVb)), G⟩ (Nat.le_of_ble_eq_true rfl) (spm_23 G hVb o4 ?_)
      intro h6 p7
      show mx_wp (d + 1) 39 12 [some (.ref 107), some (.ref b), some (.int i2)] [] h6 Q
      have H := H h6 p7
      have G8 : mxG h6 := mxU_G p7.1 G
      refine wp_steps (i' := 18) (ls' := [some (.ref 107), some (.ref b), some (.int i2)]) (st' := []) (h' := mx_wi h6 107 1 ((mx_i h6 107 1) - 1)) (P := ((mxT 107).1 = 4 ∧ mxG h6) ∧ ((mxT 107).1 = 4 ∧ mxG h6) ∧ True) 6 rfl rfl ⟨⟨(congrArg Prod.fst sT_107), G8⟩, ⟨(congrArg Prod.fst sT_107), G8⟩, trivial⟩ ?_
      obtain ⟨h9, e10⟩ : ∃ z9, z9 = mx_wi h6 107 1 ((mx_i h6 107 1) - 1) := ⟨_, rfl⟩
      rw [← e10]
      have H := H h9 e10
      have G11 : mxG h9 := e10 ▸ mxG_wi G8
      refine wp_steps (i' := 24) (ls' := [some (.ref 107), some (.ref b), some (.int i2)]) (st' := []) (h' := mx_wi h9 107 2 ((mx_i h9 107 2) - 1)) (P := ((mxT 107).1 = 4 ∧ mxG h9) ∧ ((mxT 107).1 = 4 ∧ mxG h9) ∧ True) 6 rfl rfl ⟨⟨(congrArg Prod.fst sT_107), G11⟩, ⟨(congrArg Prod.fst sT_107), G11⟩, trivial⟩ ?_
      obtain ⟨h12, e13⟩ : ∃ z9, z9 = mx_wi h9 107 2 ((mx_i h9 107 2) - 1) := ⟨_, rfl⟩
      rw [← e13]
      have H := H h12 e13
      have G14 : mxG h12 := e13 ▸ mxG_wi G11
      refine wp_steps (i' := 25) (ls' := [some (.ref 107), some (.ref b), some (.int (i2 + 1))]) (st' := []) (h' := h12) (P := True) 1 rfl rfl trivial ?_
      refine wp_J (j := 2) (st' := []) rfl rfl ?_
      exact H 
/-! 40: StoneBacks$LawText.closeJoins(LStoneBacks$Law;I)V -/
set_option maxRecDepth 8000 in
theorem trn_40_0 {d : Nat} {h : mxH} {Q : mxO → mxH → Prop} {b : Nat} {i2 : Int32} (G : mxG h) (hVb : (mxT b).1 = 3) (H : H_40_2 (d + 1) h b i2 0 Q) : mx_wp (d + 1) 40 0 (mx_fr 40 [.ref 107, .ref b, .int i2]) [] h Q := by
  show mx_wp (d + 1) 40 0 [some (.ref 107), some (.ref b), some (.int i2), none] [] h Q
  refine wp_steps (i' := 2) (ls' := [some (.ref 107), some (.ref b), some (.int i2), some (.int 0)]) (st' := []) (h' := h) (P := True) 2 rfl rfl trivial ?_
  exact H 
set_option maxRecDepth 8000 in
theorem trn_40_2 {d : Nat} {h : mxH} {Q : mxO → mxH → Prop} {b : Nat} {i2 : Int32} {i3 : Int32} (G : mxG h) (hVb : (mxT b).1 = 3) (H : ((i3 < 64 → (((0 < (mx_i h 107 1) → (vp_in ((mx_i h 107 1) - 1) 64 ∧ True)) ∧ (¬ 0 < (mx_i h 107 1) → True)) ∧ (((V_38 h (1013 : Int32)) = 0 → (((V_38 h (1014 : Int32)) = 0 → Q (.inl none) h) ∧ (¬ (V_38 h (1014 : Int32)) = 0 → ((i2 = 1014 → (cB (mx_i h b 2) 400 ∧ (∀ (h8 : mxH), p23 b (1014 : Int32) h h8 → (∀ h11, h11 = mx_wi h8 107 1 ((mx_i h8 107 1) - 1) → H_40_2 (d + 1) h11 b i2 (i3 + 1) Q)))) ∧ (¬ i2 = 1014 → Q (.inl none) h))))) ∧ (¬ (V_38 h (1013 : Int32)) = 0 → (cB (mx_i h b 2) 400 ∧ (∀ (h16 : mxH), p23 b (1013 : Int32) h h16 → (∀ h19, h19 = mx_wi h16 107 1 ((mx_i h16 107 1) - 1) → H_40_2 (d + 1) h19 b i2 (i3 + 1) Q))))))) ∧ (¬ i3 < 64 → Q (.inl none) h))) : H_40_2 (d + 1) h b i2 i3 Q := by
  show mx_wp (d + 1) 40 2 [some (.ref 107), some (.ref b), some (.int i2), some (.int i3)] [] h Q
  refine wp_steps (i' := 4) (ls' := [some (.ref 107), some (.ref b), some (.int i2), some (.int i3)]) (st' := [.int 64, .int i3]) (h' := h) (P := True) 2 rfl rfl trivial ?_
  refine wp_br (P := True) (c := 64 ≤ i3) (t := 33) (st' := []) rfl rfl trivial (fun c1 => ?_) (fun c1 => ?_)
  · have c1 := Int32.not_lt.mpr c1
    have H := H.2 c1
    exact wp_end (o := .inl none) (h' := h) (P := True) rfl rfl trivial H
  · have c1 := Int32.not_le.mp c1
    have H := H.1 c1
    refine wp_steps (i' := 7) (ls' := [some (.ref 107), some (.ref b), some (.int i2), some (.int i3)]) (st' := [.int 1013, .ref 107]) (h' := h) (P := True) 2 rfl rfl trivial ?_
    obtain ⟨o2, H⟩ := H
    refine wp_call (b := false) (y' := 38) (as := [.ref 107, .int 1013]) (rest := []) (P := ((mxT 107).1 = mxRc 38 ∧ mxG h)) rfl (by with_unfolding_all rfl) ⟨(congrArg Prod.fst sT_107), G⟩ (Nat.le_of_ble_eq_true rfl) (sp_38 G o2 ?_)
    show mx_wp (d + 1) 40 8 [some (.ref 107), some (.ref b), some (.int i2), some (.int i3)] [.int (V_38 h (1013 : Int32))] h Q
    refine wp_br (P := True) (c := (V_38 h (1013 : Int32)) = 0) (t := 13) (st' := []) rfl rfl trivial (fun c3 => ?_) (fun c3 => ?_)
    · skip
      have H := H.1 c3
      refine wp_steps (i' := 15) (ls' := [some (.ref 107), some (.ref b), some (.int i2), some (.int i3)]) (st' := [.int 1014, .ref 107]) (h' := h) (P := True) 2 rfl rfl trivial ?_
      refine wp_call (b := false) (y' := 38) (as := [.ref 107, .int 1014]) (rest := []) (P := ((mxT 107).1 = mxRc 38 ∧ mxG h)) rfl (by with_unfolding_all rfl) ⟨(congrArg Prod.fst sT_107), G⟩ (Nat.le_of_ble_eq_true rfl) (sp_38 G o2 ?_)
      show mx_wp (d + 1) 40 16 [some (.ref 107), some (.ref b), some (.int i2), some (.int i3)] [.int (V_38 h (1014 : Int32))] h Q
      refine wp_br (P := True) (c := (V_38 h (1014 : Int32)) = 0) (t := 24) (st' := []) rfl rfl trivial (fun c4 => ?_) (fun c4 => ?_)
      · skip
        have H := H.1 c4
        exact wp_end (o := .inl none) (h' := h) (P := True) rfl rfl trivial H
      · skip
        have H := H.2 c4
        refine wp_steps (i' := 19) (ls' := [some (.ref 107), some (.ref b), some (.int i2), some (.int i3)]) (st' := [.int 1014, .int i2]) (h' := h) (P := True) 2 rfl rfl trivial ?_
        refine wp_br (P := True) (c := ¬ i2 = 1014) (t := 24) (st' := []) rfl rfl trivial (fun c5 => ?_) (fun c5 => ?_)
        · skip
          have H := H.2 c5
          exact wp_end (o := .inl none) (h' := h) (P := True) rfl rfl trivial H
        · have c5 := Decidable.of_not_not c5
          have H := H.1 c5
          refine wp_steps (i' := 22) (ls' := [some (.ref 107), some (.ref b), some (.int i2), some (.int i3)]) (st' := [.int 1014, .ref b]) (h' := h) (P := True) 2 rfl rfl trivial ?_
          obtain ⟨o6, H⟩ := H
          refine wp_call (b := false) (y' := 23) (as := [.ref b, .int 1014]) (rest := []) (P := ((mxT b).1 = mxRc 23 ∧ mxG h)) rfl (by with_unfolding_all rfl) ⟨(congrArg Prod.fst (sL_0 hVb)), G⟩ (Nat.le_of_ble_eq_true rfl) (spm_23 G hVb o6 ?_)
          intro h8 p9
          show mx_wp (d + 1) 40 23 [some (.ref 107), some (.ref b), some (.int i2), some (.int i3)] [] h8 Q
          have H := H h8 p9
          have G10 : mxG h8 := mxU_G p9.1 G
          refine wp_J (j := 25) (st' := []) rfl rfl ?_
          refine wp_steps (i' := 31) (ls' := [some (.ref 107), some (.ref b), some (.int i2), some (.int i3)]) (st' := []) (h' := mx_wi h8 107 1 ((mx_i h8 107 1) - 1)) (P := ((mxT 107).1 = 4 ∧ mxG h8) ∧ ((mxT 107).1 = 4 ∧ mxG h8) ∧ True) 6 rfl rfl ⟨⟨(congrArg Prod.fst sT_107), G10⟩, ⟨(congrArg Prod.fst sT_107), G10⟩, trivial⟩ ?_
          obtain ⟨h11, e12⟩ : ∃ z9, z9 = mx_wi h8 107 1 ((mx_i h8 107 1) - 1) := ⟨_, rfl⟩
          rw [← e12]
          have H := H h11 e12
          have G13 : mxG h11 := e12 ▸ mxG_wi G10
          refine wp_steps (i' := 32) (ls' := [some (.ref 107), some (.ref b), some (.int i2), some (.int (i3 + 1))]) (st' := []) (h' := h11) (P := True) 1 rfl rfl trivial ?_
          refine wp_J (j := 2) (st' := []) rfl rfl ?_
          exact H 
    · skip
      have H := H.2 c3
      refine wp_steps (i' := 11) (ls' := [some (.ref 107), some (.ref b), some (.int i2), some (.int i3)]) (st' := [.int 1013, .ref b]) (h' := h) (P := True) 2 rfl rfl trivial ?_
      obtain ⟨o14, H⟩ := H
      refine wp_call (b := false) (y' := 23) (as := [.ref b, .int 1013]) (rest := []) (P := ((mxT b).1 = mxRc 23 ∧ mxG h)) rfl (by with_unfolding_all rfl) ⟨(congrArg Prod.fst (sL_0 hVb)), G⟩ (Nat.le_of_ble_eq_true rfl) (spm_23 G hVb o14 ?_)
      intro h16 p17
      show mx_wp (d + 1) 40 12 [some (.ref 107), some (.ref b), some (.int i2), some (.int i3)] [] h16 Q
      have H := H h16 p17
      have G18 : mxG h16 := mxU_G p17.1 G
      refine wp_J (j := 25) (st' := []) rfl rfl ?_
      refine wp_steps (i' := 31) (ls' := [some (.ref 107), some (.ref b), some (.int i2), some (.int i3)]) (st' := []) (h' := mx_wi h16 107 1 ((mx_i h16 107 1) - 1)) (P := ((mxT 107).1 = 4 ∧ mxG h16) ∧ ((mxT 107).1 = 4 ∧ mxG h16) ∧ True) 6 rfl rfl ⟨⟨(congrArg Prod.fst sT_107), G18⟩, ⟨(congrArg Prod.fst sT_107), G18⟩, trivial⟩ ?_
      obtain ⟨h19, e20⟩ : ∃ z9, z9 = mx_wi h16 107 1 ((mx_i h16 107 1) - 1) := ⟨_, rfl⟩
      rw [← e20]
      have H := H h19 e20
      have G21 : mxG h19 := e20 ▸ mxG_wi G18
      refine wp_steps (i' := 32) (ls' := [some (.ref 107), some (.ref b), some (.int i2), some (.int (i3 + 1))]) (st' := []) (h' := h19) (P := True) 1 rfl rfl trivial ?_
      refine wp_J (j := 2) (st' := []) rfl rfl ?_
      exact H 
