/-! 270: StoneBacksModel.share(II)I -/
def H_270_24 (d : Nat) (h : mxH) (i2 : Int32) (i3 : Int32) (i4 : Int32) (i5 : Int32) (i6 : Int32) (Q : mxO → mxH → Prop) : Prop := ∀ (w1 : Option Value) (w7 : Option Value) (w8 : Option Value) (w9 : Option Value) (w10 : Option Value), mx_wp d 270 24 [some (.ref 381), w1, some (.int i2), some (.int i3), some (.int i4), some (.int i5), some (.int i6), w7, w8, w9, w10] [] h Q
def H_270_70 (d : Nat) (h : mxH) (i2 : Int32) (i3 : Int32) (i4 : Int32) (i5 : Int32) (i6 : Int32) (i7 : Int32) (Q : mxO → mxH → Prop) : Prop := ∀ (w1 : Option Value) (w8 : Option Value) (w9 : Option Value) (w10 : Option Value), mx_wp d 270 70 [some (.ref 381), w1, some (.int i2), some (.int i3), some (.int i4), some (.int i5), some (.int i6), some (.int i7), w8, w9, w10] [] h Q
def H_270_86 (d : Nat) (h : mxH) (i2 : Int32) (i3 : Int32) (i4 : Int32) (i5 : Int32) (i7 : Int32) (i8 : Int32) (i9 : Int32) (Q : mxO → mxH → Prop) : Prop := ∀ (w1 : Option Value) (w6 : Option Value) (w10 : Option Value), mx_wp d 270 86 [some (.ref 381), w1, some (.int i2), some (.int i3), some (.int i4), some (.int i5), w6, some (.int i7), some (.int i8), some (.int i9), w10] [] h Q
def H_270_103 (d : Nat) (h : mxH) (i2 : Int32) (i3 : Int32) (i4 : Int32) (i5 : Int32) (i7 : Int32) (i8 : Int32) (i9 : Int32) (i10 : Int32) (Q : mxO → mxH → Prop) : Prop := ∀ (w1 : Option Value) (w6 : Option Value), mx_wp d 270 103 [some (.ref 381), w1, some (.int i2), some (.int i3), some (.int i4), some (.int i5), w6, some (.int i7), some (.int i8), some (.int i9), some (.int i10)] [] h Q
set_option maxRecDepth 8000 in
theorem tr_270_0 {d : Nat} {h : mxH} {Q : mxO → mxH → Prop} {i1 : Int32} {i2 : Int32} (G : mxG h)  (H : (((V_191 (mx_i h 382) i1 (0 : Int32) (11 : Int32)) = 0 ∨ (V_191 (mx_i h 382) i1 (0 : Int32) (11 : Int32)) = 1) ∧ (∀ (v2 : Int32), v2 = ((if (V_202 (mx_i h 382) i1) = 0 then 1 else 0) : Int32) → (∀ h3, h3 = mx_wi h 381 0 v2 → ((0 < (mx_i h3 381 0) → Q (.inl (some (.int 0))) h3) ∧ (¬ 0 < (mx_i h3 381 0) → (cB (mx_i h3 382 3) 6 ∧ H_270_24 (d + 4) h3 i2 (V_247 (mx_i h3 382) i1) (V_195 (mx_i h3 382) (V_247 (mx_i h3 382) i1)) 0 0 Q))))))) : mx_wp (d + 4) 270 0 (mx_fr 270 [.ref 381, .int i1, .int i2]) [] h Q := by
  show mx_wp (d + 4) 270 0 [some (.ref 381), some (.int i1), some (.int i2), none, none, none, none, none, none, none, none] [] h Q
  refine wp_steps (i' := 2) (ls' := [some (.ref 381), some (.int i1), some (.int i2), none, none, none, none, none, none, none, none]) (st' := [.int i1, .ref 381]) (h' := h) (P := True) 2 rfl rfl trivial ?_
  obtain ⟨o1, H⟩ := H
  refine wp_call (b := false) (y' := 202) (as := [.int i1]) (rest := [.ref 381]) (P := True) rfl (by with_unfolding_all rfl) trivial (Nat.le_of_ble_eq_true rfl) (sp_202 G o1 ?_)
  show mx_wp (d + 4) 270 3 [some (.ref 381), some (.int i1), some (.int i2), none, none, none, none, none, none, none, none] [.int (V_202 (mx_i h 382) i1), .ref 381] h Q
  have J : ∀ (v2 : Int32) (ev2 : v2 = ((if (V_202 (mx_i h 382) i1) = 0 then 1 else 0) : Int32)), mx_wp (d + 4) 270 7 [some (.ref 381), some (.int i1), some (.int i2), none, none, none, none, none, none, none, none] [.int v2, .ref 381] h Q := by
    intro v2 ev2
    have H := H v2 ev2
    refine wp_steps (i' := 8) (ls' := [some (.ref 381), some (.int i1), some (.int i2), none, none, none, none, none, none, none, none]) (st' := []) (h' := mx_wi h 381 0 v2) (P := ((mxT 381).1 = 11 ∧ mxG h) ∧ True) 1 rfl rfl ⟨⟨(congrArg Prod.fst sT_381), G⟩, trivial⟩ ?_
    obtain ⟨h3, e4⟩ : ∃ z9, z9 = mx_wi h 381 0 v2 := ⟨_, rfl⟩
    rw [← e4]
    have H := H h3 e4
    have G5 : mxG h3 := e4 ▸ mxG_wi G
    refine wp_steps (i' := 10) (ls' := [some (.ref 381), some (.int i1), some (.int i2), none, none, none, none, none, none, none, none]) (st' := [.int (mx_i h3 381 0)]) (h' := h3) (P := ((mxT 381).1 = 11 ∧ mxG h3) ∧ True) 2 rfl rfl ⟨⟨(congrArg Prod.fst sT_381), G5⟩, trivial⟩ ?_
    refine wp_br (P := True) (c := (mx_i h3 381 0) ≤ 0) (t := 13) (st' := []) rfl rfl trivial (fun c6 => ?_) (fun c6 => ?_)
    · have c6 := Int32.not_lt.mpr c6
      have H := H.2 c6
      refine wp_steps (i' := 15) (ls' := [some (.ref 381), some (.int i1), some (.int i2), none, none, none, none, none, none, none, none]) (st' := [.int i1, .ref 381]) (h' := h3) (P := True) 2 rfl rfl trivial ?_
      obtain ⟨o7, H⟩ := H
      refine wp_call (b := false) (y' := 247) (as := [.ref 381, .int i1]) (rest := []) (P := ((mxT 381).1 = mxRc 247 ∧ mxG h3)) rfl (by with_unfolding_all rfl) ⟨(congrArg Prod.fst sT_381), G5⟩ (Nat.le_of_ble_eq_true rfl) (sp_247 G5 o7 ?_)
      show mx_wp (d + 4) 270 16 [some (.ref 381), some (.int i1), some (.int i2), none, none, none, none, none, none, none, none] [.int (V_247 (mx_i h3 382) i1)] h3 Q
      refine wp_steps (i' := 18) (ls' := [some (.ref 381), some (.int i1), some (.int i2), some (.int (V_247 (mx_i h3 382) i1)), none, none, none, none, none, none, none]) (st' := [.int (V_247 (mx_i h3 382) i1)]) (h' := h3) (P := True) 2 rfl rfl trivial ?_
      refine wp_call (b := false) (y' := 195) (as := [.int (V_247 (mx_i h3 382) i1)]) (rest := []) (P := True) rfl (by with_unfolding_all rfl) trivial (Nat.le_of_ble_eq_true rfl) (sp_195 G5 ?_)
      show mx_wp (d + 4) 270 19 [some (.ref 381), some (.int i1), some (.int i2), some (.int (V_247 (mx_i h3 382) i1)), none, none, none, none, none, none, none] [.int (V_195 (mx_i h3 382) (V_247 (mx_i h3 382) i1))] h3 Q
      refine wp_steps (i' := 24) (ls' := [some (.ref 381), some (.int i1), some (.int i2), some (.int (V_247 (mx_i h3 382) i1)), some (.int (V_195 (mx_i h3 382) (V_247 (mx_i h3 382) i1))), some (.int 0), some (.int 0), none, none, none, none]) (st' := []) (h' := h3) (P := True) 5 rfl rfl trivial ?_
      exact H _ _ _ _ _
    · have c6 := Int32.not_le.mp c6
      have H := H.1 c6
      refine wp_steps (i' := 12) (ls' := [some (.ref 381), some (.int i1), some (.int i2), none, none, none, none, none, none, none, none]) (st' := [.int 0]) (h' := h3) (P := True) 1 rfl rfl trivial ?_
      exact wp_end (o := .inl (some (.int 0))) (h' := h3) (P := True) rfl rfl trivial H
  refine wp_br (P := True) (c := ¬ (V_202 (mx_i h 382) i1) = 0) (t := 6) (st' := [.ref 381]) rfl rfl trivial (fun c8 => ?_) (fun c8 => ?_)
  · skip
    refine wp_steps (i' := 7) (ls' := [some (.ref 381), some (.int i1), some (.int i2), none, none, none, none, none, none, none, none]) (st' := [.int 0, .ref 381]) (h' := h) (P := True) 1 rfl rfl trivial ?_
    exact J _ (by rw [if_neg c8])
  · have c8 := Decidable.of_not_not c8
    refine wp_steps (i' := 5) (ls' := [some (.ref 381), some (.int i1), some (.int i2), none, none, none, none, none, none, none, none]) (st' := [.int 1, .ref 381]) (h' := h) (P := True) 1 rfl rfl trivial ?_
    refine wp_J (j := 7) (st' := [.int 1, .ref 381]) rfl rfl ?_
    exact J _ (by rw [if_pos c8])
set_option maxRecDepth 8000 in
theorem tr_270_24 {d : Nat} {h : mxH} {Q : mxO → mxH → Prop}  {i2 : Int32} {i3 : Int32} {i4 : Int32} {i5 : Int32} {i6 : Int32} (G : mxG h)  (H : ((i6 < (mx_i h 382 3) → ((((V_194 (mx_i h 382) i3 i6) = 0 → True) ∧ (¬ (V_194 (mx_i h 382) i3 i6) = 0 → (cB (mx_i h 382 4) 10 ∧ True))) ∧ (∀ (v10 : Int32), v10 = ((if (V_194 (mx_i h 382) i3 i6) = 0 then 0 else (V_203 (mx_i h 382) i6)) : Int32) → H_270_24 (d + 4) h i2 i3 i4 (i5 ||| v10) (i6 + 1) Q))) ∧ (¬ i6 < (mx_i h 382 3) → ((i4 = 0 → Q (.inl (some (.int (-1)))) h) ∧ (¬ i4 = 0 → ((∃ (q : Nat × Nat × Nat), okLb h i5 i4 q.1 q.2.1 q.2.2) ∧ (∀ (x4 : Int32) (h5 : mxH), p267 i5 i4 h x4 h5 → ((i2 = (-1) → Q (.inl (some (.int x4))) h5) ∧ (¬ i2 = (-1) → (((V_191 (mx_i h5 382) i2 (0 : Int32) ((V_195 (mx_i h5 382) i5) - 1)) = 0 → Q (.inl (some (.int (-1)))) h5) ∧ (¬ (V_191 (mx_i h5 382) i2 (0 : Int32) ((V_195 (mx_i h5 382) i5) - 1)) = 0 → H_270_70 (d + 4) h5 i2 i3 i4 i5 x4 0 Q))))))))))) : H_270_24 (d + 4) h i2 i3 i4 i5 i6 Q := by
  intro w1 w7 w8 w9 w10
  show mx_wp (d + 4) 270 24 [some (.ref 381), w1, some (.int i2), some (.int i3), some (.int i4), some (.int i5), some (.int i6), w7, w8, w9, w10] [] h Q
  refine wp_steps (i' := 29) (ls' := [some (.ref 381), w1, some (.int i2), some (.int i3), some (.int i4), some (.int i5), some (.int i6), w7, w8, w9, w10]) (st' := [.int (mx_i h 382 3), .int i6]) (h' := h) (P := ((mxT 381).1 = 11 ∧ mxG h) ∧ (((mxT 382).1 = 50 ∧ mxG h) ∧ vp_in 3 (mxT 382).2) ∧ True) 5 rfl rfl ⟨⟨(congrArg Prod.fst sT_381), G⟩, (cA sT_382 G (vpl rfl)), trivial⟩ ?_
  refine wp_br (P := True) (c := (mx_i h 382 3) ≤ i6) (t := 44) (st' := []) rfl rfl trivial (fun c1 => ?_) (fun c1 => ?_)
  · have c1 := Int32.not_lt.mpr c1
    have H := H.2 c1
    refine wp_steps (i' := 45) (ls' := [some (.ref 381), w1, some (.int i2), some (.int i3), some (.int i4), some (.int i5), some (.int i6), w7, w8, w9, w10]) (st' := [.int i4]) (h' := h) (P := True) 1 rfl rfl trivial ?_
    refine wp_br (P := True) (c := ¬ i4 = 0) (t := 48) (st' := []) rfl rfl trivial (fun c2 => ?_) (fun c2 => ?_)
    · skip
      have H := H.2 c2
      refine wp_steps (i' := 51) (ls' := [some (.ref 381), w1, some (.int i2), some (.int i3), some (.int i4), some (.int i5), some (.int i6), w7, w8, w9, w10]) (st' := [.int i4, .int i5, .ref 381]) (h' := h) (P := True) 3 rfl rfl trivial ?_
      obtain ⟨o3, H⟩ := H
      refine wp_call (b := false) (y' := 267) (as := [.ref 381, .int i5, .int i4]) (rest := []) (P := ((mxT 381).1 = mxRc 267 ∧ mxG h)) rfl (by with_unfolding_all rfl) ⟨(congrArg Prod.fst sT_381), G⟩ (Nat.le_of_ble_eq_true rfl) (sp_267 G o3 ?_)
      intro x4 h5 p6
      show mx_wp (d + 4) 270 52 [some (.ref 381), w1, some (.int i2), some (.int i3), some (.int i4), some (.int i5), some (.int i6), w7, w8, w9, w10] [.int x4] h5 Q
      have H := H x4 h5 p6
      have G7 : mxG h5 := mxU_G p6.1 G
      refine wp_steps (i' := 55) (ls' := [some (.ref 381), w1, some (.int i2), some (.int i3), some (.int i4), some (.int i5), some (.int x4), w7, w8, w9, w10]) (st' := [.int (-1), .int i2]) (h' := h5) (P := True) 3 rfl rfl trivial ?_
      refine wp_br (P := True) (c := ¬ i2 = (-1)) (t := 58) (st' := []) rfl rfl trivial (fun c8 => ?_) (fun c8 => ?_)
      · skip
        have H := H.2 c8
        refine wp_steps (i' := 61) (ls' := [some (.ref 381), w1, some (.int i2), some (.int i3), some (.int i4), some (.int i5), some (.int x4), w7, w8, w9, w10]) (st' := [.int i5, .int 0, .int i2]) (h' := h5) (P := True) 3 rfl rfl trivial ?_
        refine wp_call (b := false) (y' := 195) (as := [.int i5]) (rest := [.int 0, .int i2]) (P := True) rfl (by with_unfolding_all rfl) trivial (Nat.le_of_ble_eq_true rfl) (sp_195 G7 ?_)
        show mx_wp (d + 4) 270 62 [some (.ref 381), w1, some (.int i2), some (.int i3), some (.int i4), some (.int i5), some (.int x4), w7, w8, w9, w10] [.int (V_195 (mx_i h5 382) i5), .int 0, .int i2] h5 Q
        refine wp_steps (i' := 64) (ls' := [some (.ref 381), w1, some (.int i2), some (.int i3), some (.int i4), some (.int i5), some (.int x4), w7, w8, w9, w10]) (st' := [.int ((V_195 (mx_i h5 382) i5) - 1), .int 0, .int i2]) (h' := h5) (P := True) 2 rfl rfl trivial ?_
        refine wp_call (b := false) (y' := 191) (as := [.int i2, .int 0, .int ((V_195 (mx_i h5 382) i5) - 1)]) (rest := []) (P := True) rfl (by with_unfolding_all rfl) trivial (Nat.le_of_ble_eq_true rfl) (sp_191 G7 ?_)
        show mx_wp (d + 4) 270 65 [some (.ref 381), w1, some (.int i2), some (.int i3), some (.int i4), some (.int i5), some (.int x4), w7, w8, w9, w10] [.int (V_191 (mx_i h5 382) i2 (0 : Int32) ((V_195 (mx_i h5 382) i5) - 1))] h5 Q
        refine wp_br (P := True) (c := ¬ (V_191 (mx_i h5 382) i2 (0 : Int32) ((V_195 (mx_i h5 382) i5) - 1)) = 0) (t := 68) (st' := []) rfl rfl trivial (fun c9 => ?_) (fun c9 => ?_)
        · skip
          have H := H.2 c9
          refine wp_steps (i' := 70) (ls' := [some (.ref 381), w1, some (.int i2), some (.int i3), some (.int i4), some (.int i5), some (.int x4), some (.int 0), w8, w9, w10]) (st' := []) (h' := h5) (P := True) 2 rfl rfl trivial ?_
          exact H _ _ _ _
        · have c9 := Decidable.of_not_not c9
          have H := H.1 c9
          refine wp_steps (i' := 67) (ls' := [some (.ref 381), w1, some (.int i2), some (.int i3), some (.int i4), some (.int i5), some (.int x4), w7, w8, w9, w10]) (st' := [.int (-1)]) (h' := h5) (P := True) 1 rfl rfl trivial ?_
          exact wp_end (o := .inl (some (.int (-1)))) (h' := h5) (P := True) rfl rfl trivial H
      · have c8 := Decidable.of_not_not c8
        have H := H.1 c8
        refine wp_steps (i' := 57) (ls' := [some (.ref 381), w1, some (.int i2), some (.int i3), some (.int i4), some (.int i5), some (.int x4), w7, w8, w9, w10]) (st' := [.int x4]) (h' := h5) (P := True) 1 rfl rfl trivial ?_
        exact wp_end (o := .inl (some (.int x4))) (h' := h5) (P := True) rfl rfl trivial H
    · have c2 := Decidable.of_not_not c2
      have H := H.1 c2
      refine wp_steps (i' := 47) (ls' := [some (.ref 381), w1, some (.int i2), some (.int i3), some (.int i4), some (.int i5), some (.int i6), w7, w8, w9, w10]) (st' := [.int (-1)]) (h' := h) (P := True) 1 rfl rfl trivial ?_
      exact wp_end (o := .inl (some (.int (-1)))) (h' := h) (P := True) rfl rfl trivial H
  · have c1 := Int32.not_le.mp c1
    have H := H.1 c1
    refine wp_steps (i' := 33) (ls' := [some (.ref 381), w1, some (.int i2), some (.int i3), some (.int i4), some (.int i5), some (.int i6), w7, w8, w9, w10]) (st' := [.int i6, .int i3, .int i5]) (h' := h) (P := True) 3 rfl rfl trivial ?_
    refine wp_call (b := false) (y' := 194) (as := [.int i3, .int i6]) (rest := [.int i5]) (P := True) rfl (by with_unfolding_all rfl) trivial (Nat.le_of_ble_eq_true rfl) (sp_194 G ?_)
    show mx_wp (d + 4) 270 34 [some (.ref 381), w1, some (.int i2), some (.int i3), some (.int i4), some (.int i5), some (.int i6), w7, w8, w9, w10] [.int (V_194 (mx_i h 382) i3 i6), .int i5] h Q
    have J : ∀ (v10 : Int32) (ev10 : v10 = ((if (V_194 (mx_i h 382) i3 i6) = 0 then 0 else (V_203 (mx_i h 382) i6)) : Int32)), mx_wp (d + 4) 270 40 [some (.ref 381), w1, some (.int i2), some (.int i3), some (.int i4), some (.int i5), some (.int i6), w7, w8, w9, w10] [.int v10, .int i5] h Q := by
      intro v10 ev10
      have H := H.2 v10 ev10
      refine wp_steps (i' := 43) (ls' := [some (.ref 381), w1, some (.int i2), some (.int i3), some (.int i4), some (.int (i5 ||| v10)), some (.int (i6 + 1)), w7, w8, w9, w10]) (st' := []) (h' := h) (P := True) 3 rfl rfl trivial ?_
      refine wp_J (j := 24) (st' := []) rfl rfl ?_
      exact H _ _ _ _ _
    have H := H.1
    refine wp_br (P := True) (c := (V_194 (mx_i h 382) i3 i6) = 0) (t := 39) (st' := [.int i5]) rfl rfl trivial (fun c11 => ?_) (fun c11 => ?_)
    · skip
      refine wp_steps (i' := 40) (ls' := [some (.ref 381), w1, some (.int i2), some (.int i3), some (.int i4), some (.int i5), some (.int i6), w7, w8, w9, w10]) (st' := [.int 0, .int i5]) (h' := h) (P := True) 1 rfl rfl trivial ?_
      exact J _ (by rw [if_pos c11])
    · skip
      have H := H.2 c11
      refine wp_steps (i' := 37) (ls' := [some (.ref 381), w1, some (.int i2), some (.int i3), some (.int i4), some (.int i5), some (.int i6), w7, w8, w9, w10]) (st' := [.int i6, .ref 381, .int i5]) (h' := h) (P := True) 2 rfl rfl trivial ?_
      obtain ⟨o12, H⟩ := H
      refine wp_call (b := false) (y' := 203) (as := [.ref 381, .int i6]) (rest := [.int i5]) (P := ((mxT 381).1 = mxRc 203 ∧ mxG h)) rfl (by with_unfolding_all rfl) ⟨(congrArg Prod.fst sT_381), G⟩ (Nat.le_of_ble_eq_true rfl) (sp_203 G o12 ?_)
      show mx_wp (d + 4) 270 38 [some (.ref 381), w1, some (.int i2), some (.int i3), some (.int i4), some (.int i5), some (.int i6), w7, w8, w9, w10] [.int (V_203 (mx_i h 382) i6), .int i5] h Q
      refine wp_J (j := 40) (st' := [.int (V_203 (mx_i h 382) i6), .int i5]) rfl rfl ?_
      exact J _ (by rw [if_neg c11])
set_option maxRecDepth 8000 in
theorem tr_270_70 {d : Nat} {h : mxH} {Q : mxO → mxH → Prop}  {i2 : Int32} {i3 : Int32} {i4 : Int32} {i5 : Int32} {i6 : Int32} {i7 : Int32} (G : mxG h)  (H : ((i7 < i4 → (vp_in i7 6 ∧ (∀ h3, h3 = mx_wi h 390 i7.toNatClampNeg i6 → H_270_70 (d + 4) h3 i2 i3 i4 i5 i6 (i7 + 1) Q))) ∧ (¬ i7 < i4 → H_270_86 (d + 4) h i2 i3 i4 i5 i5 0 0 Q))) : H_270_70 (d + 4) h i2 i3 i4 i5 i6 i7 Q := by
  intro w1 w8 w9 w10
  show mx_wp (d + 4) 270 70 [some (.ref 381), w1, some (.int i2), some (.int i3), some (.int i4), some (.int i5), some (.int i6), some (.int i7), w8, w9, w10] [] h Q
  refine wp_steps (i' := 72) (ls' := [some (.ref 381), w1, some (.int i2), some (.int i3), some (.int i4), some (.int i5), some (.int i6), some (.int i7), w8, w9, w10]) (st' := [.int i4, .int i7]) (h' := h) (P := True) 2 rfl rfl trivial ?_
  refine wp_br (P := True) (c := i4 ≤ i7) (t := 80) (st' := []) rfl rfl trivial (fun c1 => ?_) (fun c1 => ?_)
  · have c1 := Int32.not_lt.mpr c1
    have H := H.2 c1
    refine wp_steps (i' := 86) (ls' := [some (.ref 381), w1, some (.int i2), some (.int i3), some (.int i4), some (.int i5), some (.int i6), some (.int i5), some (.int 0), some (.int 0), w10]) (st' := []) (h' := h) (P := True) 6 rfl rfl trivial ?_
    exact H _ _ _
  · have c1 := Int32.not_le.mp c1
    have H := H.1 c1
    obtain ⟨o2, H⟩ := H
    refine wp_steps (i' := 78) (ls' := [some (.ref 381), w1, some (.int i2), some (.int i3), some (.int i4), some (.int i5), some (.int i6), some (.int i7), w8, w9, w10]) (st' := []) (h' := mx_wi h 390 i7.toNatClampNeg i6) (P := ((mxT 381).1 = 11 ∧ mxG h) ∧ (((mxT 390).1 = 50 ∧ mxG h) ∧ vp_in i7 (mxT 390).2) ∧ True) 5 rfl rfl ⟨⟨(congrArg Prod.fst sT_381), G⟩, (cA sT_390 G o2), trivial⟩ ?_
    obtain ⟨h3, e4⟩ : ∃ z9, z9 = mx_wi h 390 i7.toNatClampNeg i6 := ⟨_, rfl⟩
    rw [← e4]
    have H := H h3 e4
    have G5 : mxG h3 := e4 ▸ mxG_wi G
    refine wp_steps (i' := 79) (ls' := [some (.ref 381), w1, some (.int i2), some (.int i3), some (.int i4), some (.int i5), some (.int i6), some (.int (i7 + 1)), w8, w9, w10]) (st' := []) (h' := h3) (P := True) 1 rfl rfl trivial ?_
    refine wp_J (j := 70) (st' := []) rfl rfl ?_
    exact H _ _ _ _
set_option maxRecDepth 8000 in
theorem tr_270_86 {d : Nat} {h : mxH} {Q : mxO → mxH → Prop}  {i2 : Int32} {i3 : Int32} {i4 : Int32} {i5 : Int32} {i7 : Int32} {i8 : Int32} {i9 : Int32} (G : mxG h)  (H : ((i2 < i9 → Q (.inl (some (.int (V_269 h i3 i8)))) h) ∧ (¬ i2 < i9 → H_270_103 (d + 4) h i2 i3 i4 i5 (i7 &&& (((1 : Int32) <<< ((V_269 h i5 i9) &&& 31)) ^^^ (-1))) 0 i9 (V_269 h i5 i9) Q))) : H_270_86 (d + 4) h i2 i3 i4 i5 i7 i8 i9 Q := by
  intro w1 w6 w10
  show mx_wp (d + 4) 270 86 [some (.ref 381), w1, some (.int i2), some (.int i3), some (.int i4), some (.int i5), w6, some (.int i7), some (.int i8), some (.int i9), w10] [] h Q
  refine wp_steps (i' := 88) (ls' := [some (.ref 381), w1, some (.int i2), some (.int i3), some (.int i4), some (.int i5), w6, some (.int i7), some (.int i8), some (.int i9), w10]) (st' := [.int i2, .int i9]) (h' := h) (P := True) 2 rfl rfl trivial ?_
  refine wp_br (P := True) (c := i2 < i9) (t := 117) (st' := []) rfl rfl trivial (fun c1 => ?_) (fun c1 => ?_)
  · skip
    have H := H.1 c1
    refine wp_steps (i' := 119) (ls' := [some (.ref 381), w1, some (.int i2), some (.int i3), some (.int i4), some (.int i5), w6, some (.int i7), some (.int i8), some (.int i9), w10]) (st' := [.int i8, .int i3]) (h' := h) (P := True) 2 rfl rfl trivial ?_
    refine wp_call (b := false) (y' := 269) (as := [.int i3, .int i8]) (rest := []) (P := True) rfl (by with_unfolding_all rfl) trivial (Nat.le_of_ble_eq_true rfl) (sp_269 G ?_)
    show mx_wp (d + 4) 270 120 [some (.ref 381), w1, some (.int i2), some (.int i3), some (.int i4), some (.int i5), w6, some (.int i7), some (.int i8), some (.int i9), w10] [.int (V_269 h i3 i8)] h Q
    exact wp_end (o := .inl (some (.int (V_269 h i3 i8)))) (h' := h) (P := True) rfl rfl trivial H
  · skip
    have H := H.2 c1
    refine wp_steps (i' := 91) (ls' := [some (.ref 381), w1, some (.int i2), some (.int i3), some (.int i4), some (.int i5), w6, some (.int i7), some (.int i8), some (.int i9), w10]) (st' := [.int i9, .int i5]) (h' := h) (P := True) 2 rfl rfl trivial ?_
    refine wp_call (b := false) (y' := 269) (as := [.int i5, .int i9]) (rest := []) (P := True) rfl (by with_unfolding_all rfl) trivial (Nat.le_of_ble_eq_true rfl) (sp_269 G ?_)
    show mx_wp (d + 4) 270 92 [some (.ref 381), w1, some (.int i2), some (.int i3), some (.int i4), some (.int i5), w6, some (.int i7), some (.int i8), some (.int i9), w10] [.int (V_269 h i5 i9)] h Q
    refine wp_steps (i' := 103) (ls' := [some (.ref 381), w1, some (.int i2), some (.int i3), some (.int i4), some (.int i5), w6, some (.int (i7 &&& (((1 : Int32) <<< ((V_269 h i5 i9) &&& 31)) ^^^ (-1)))), some (.int 0), some (.int i9), some (.int (V_269 h i5 i9))]) (st' := []) (h' := h) (P := True) 11 rfl rfl trivial ?_
    exact H _ _
set_option maxRecDepth 8000 in
theorem tr_270_103 {d : Nat} {h : mxH} {Q : mxO → mxH → Prop}  {i2 : Int32} {i3 : Int32} {i4 : Int32} {i5 : Int32} {i7 : Int32} {i8 : Int32} {i9 : Int32} {i10 : Int32} (G : mxG h)  (H : (vp_in ((69 + (6 * i10)) + (2 : Int32)) 769 ∧ ((∃ (q : Nat × Nat × Nat × (Nat → Nat) × Nat × Nat), okGs h i8 (V_198 (mx_i h 382) i10 (2 : Int32)) i7 i4 q.1 q.2.1 q.2.2.1 q.2.2.2.1 q.2.2.2.2.1 q.2.2.2.2.2) ∧ (∀ (x3 : Int32) (h4 : mxH), p271 i8 (V_198 (mx_i h 382) i10 (2 : Int32)) i7 i4 h x3 h4 → ((x3 = 0 → H_270_103 (d + 4) h4 i2 i3 i4 i5 i7 (i8 + 1) i9 i10 Q) ∧ (¬ x3 = 0 → H_270_86 (d + 4) h4 i2 i3 i4 i5 i7 i8 (i9 + 1) Q)))))) : H_270_103 (d + 4) h i2 i3 i4 i5 i7 i8 i9 i10 Q := by
  intro w1 w6
  show mx_wp (d + 4) 270 103 [some (.ref 381), w1, some (.int i2), some (.int i3), some (.int i4), some (.int i5), w6, some (.int i7), some (.int i8), some (.int i9), some (.int i10)] [] h Q
  refine wp_steps (i' := 108) (ls' := [some (.ref 381), w1, some (.int i2), some (.int i3), some (.int i4), some (.int i5), w6, some (.int i7), some (.int i8), some (.int i9), some (.int i10)]) (st' := [.int 2, .int i10, .ref 381, .int i8, .ref 381]) (h' := h) (P := True) 5 rfl rfl trivial ?_
  obtain ⟨o1, H⟩ := H
  refine wp_call (b := false) (y' := 198) (as := [.ref 381, .int i10, .int 2]) (rest := [.int i8, .ref 381]) (P := ((mxT 381).1 = mxRc 198 ∧ mxG h)) rfl (by with_unfolding_all rfl) ⟨(congrArg Prod.fst sT_381), G⟩ (Nat.le_of_ble_eq_true rfl) (sp_198 G o1 ?_)
  show mx_wp (d + 4) 270 109 [some (.ref 381), w1, some (.int i2), some (.int i3), some (.int i4), some (.int i5), w6, some (.int i7), some (.int i8), some (.int i9), some (.int i10)] [.int (V_198 (mx_i h 382) i10 (2 : Int32)), .int i8, .ref 381] h Q
  refine wp_steps (i' := 111) (ls' := [some (.ref 381), w1, some (.int i2), some (.int i3), some (.int i4), some (.int i5), w6, some (.int i7), some (.int i8), some (.int i9), some (.int i10)]) (st' := [.int i4, .int i7, .int (V_198 (mx_i h 382) i10 (2 : Int32)), .int i8, .ref 381]) (h' := h) (P := True) 2 rfl rfl trivial ?_
  obtain ⟨o2, H⟩ := H
  refine wp_call (b := false) (y' := 271) (as := [.ref 381, .int i8, .int (V_198 (mx_i h 382) i10 (2 : Int32)), .int i7, .int i4]) (rest := []) (P := ((mxT 381).1 = mxRc 271 ∧ mxG h)) rfl (by with_unfolding_all rfl) ⟨(congrArg Prod.fst sT_381), G⟩ (Nat.le_of_ble_eq_true rfl) (sp_271 G o2 ?_)
  intro x3 h4 p5
  show mx_wp (d + 4) 270 112 [some (.ref 381), w1, some (.int i2), some (.int i3), some (.int i4), some (.int i5), w6, some (.int i7), some (.int i8), some (.int i9), some (.int i10)] [.int x3] h4 Q
  have H := H x3 h4 p5
  have G6 : mxG h4 := mxU_G p5.1 G
  refine wp_br (P := True) (c := ¬ x3 = 0) (t := 115) (st' := []) rfl rfl trivial (fun c7 => ?_) (fun c7 => ?_)
  · skip
    have H := H.2 c7
    refine wp_steps (i' := 116) (ls' := [some (.ref 381), w1, some (.int i2), some (.int i3), some (.int i4), some (.int i5), w6, some (.int i7), some (.int i8), some (.int (i9 + 1)), some (.int i10)]) (st' := []) (h' := h4) (P := True) 1 rfl rfl trivial ?_
    refine wp_J (j := 86) (st' := []) rfl rfl ?_
    exact H _ _ _
  · have c7 := Decidable.of_not_not c7
    have H := H.1 c7
    refine wp_steps (i' := 114) (ls' := [some (.ref 381), w1, some (.int i2), some (.int i3), some (.int i4), some (.int i5), w6, some (.int i7), some (.int (i8 + 1)), some (.int i9), some (.int i10)]) (st' := []) (h' := h4) (P := True) 1 rfl rfl trivial ?_
    refine wp_J (j := 103) (st' := []) rfl rfl ?_
    exact H _ _
def F_270_24 (r : Nat → Int32) (i2 : Int32) (i3 : Int32) (i4 : Int32) (z : Nat) (s : Int32) : Int32 := (s ||| ((if (V_194 (r) i3 (nI z)) = 0 then 0 else (V_203 (r) (nI z))) : Int32))
theorem lp_270_24 {d : Nat} {h : mxH} {Q : mxO → mxH → Prop} {i2 : Int32} {i3 : Int32} {i4 : Int32} {s0 : Int32} {n : Nat} (z0 : Nat) (G : mxG h)  (hB : (mx_i h 382 3) = nI n) (hn : n < 2147483648) (hz : z0 ≤ n) (ob : ∀ z, z0 ≤ z → z < n → ((((V_194 (mx_i h 382) i3 (nI z)) = 0 → True) ∧ (¬ (V_194 (mx_i h 382) i3 (nI z)) = 0 → (cB (mx_i h 382 4) 10 ∧ True))) ∧ True)) (k : ((i4 = 0 → Q (.inl (some (.int (-1)))) h) ∧ (¬ i4 = 0 → ((∃ (q : Nat × Nat × Nat), okLb h (fz (F_270_24 (mx_i h 382) i2 i3 i4) z0 n s0) i4 q.1 q.2.1 q.2.2) ∧ (∀ (x4 : Int32) (h5 : mxH), p267 (fz (F_270_24 (mx_i h 382) i2 i3 i4) z0 n s0) i4 h x4 h5 → ((i2 = (-1) → Q (.inl (some (.int x4))) h5) ∧ (¬ i2 = (-1) → (((V_191 (mx_i h5 382) i2 (0 : Int32) ((V_195 (mx_i h5 382) (fz (F_270_24 (mx_i h 382) i2 i3 i4) z0 n s0)) - 1)) = 0 → Q (.inl (some (.int (-1)))) h5) ∧ (¬ (V_191 (mx_i h5 382) i2 (0 : Int32) ((V_195 (mx_i h5 382) (fz (F_270_24 (mx_i h 382) i2 i3 i4) z0 n s0)) - 1)) = 0 → H_270_70 (d + 4) h5 i2 i3 i4 (fz (F_270_24 (mx_i h 382) i2 i3 i4) z0 n s0) x4 0 Q))))))))) : H_270_24 (d + 4) h i2 i3 i4 s0 (nI z0) Q := by
  have L : ∀ (j z : Nat), z0 ≤ z → z + j = n → H_270_24 (d + 4) h i2 i3 i4 (fz (F_270_24 (mx_i h 382) i2 i3 i4) z0 z s0) (nI z) Q := by
    intro j
    induction j with
    | zero =>
      intro z hz0 hzn
      have hzn : z = n := by omega
      subst hzn
      refine tr_270_24 G  ⟨fun c9 => absurd (hB ▸ c9) Int32.lt_irrefl, fun c9 => k⟩
    | succ j ih =>
      intro z hz0 hzn
      have hih := ih (z + 1) (by omega) (by omega)
      rw [nI_succ, fz_s hz0] at hih
      have hob := ob z hz0 (by omega)
      refine tr_270_24 G  ⟨fun c9 => ?_, fun c9 => absurd (hB.symm ▸ nI_lt (by omega) hn) c9⟩
      obtain ⟨q0, hob⟩ := hob
      refine ⟨q0, ?_⟩
      intro v10 ev10
      subst ev10
      exact hih
  have L0 := L (n - z0) z0 (Nat.le_refl _) (by omega)
  simp only [fz_0] at L0
  exact L0
def F_270_70 (i2 : Int32) (i3 : Int32) (i4 : Int32) (i5 : Int32) (i6 : Int32) (z : Nat) (s : mxH) : mxH := (mx_wi s 390 (nI z).toNatClampNeg i6)
theorem K_270_70 {i2 : Int32} {i3 : Int32} {i4 : Int32} {i5 : Int32} {i6 : Int32} (z : Nat) (s : mxH) : mxK s ((F_270_70 i2 i3 i4 i5 i6) z s) := by
  unfold F_270_70
  (try simp only []); repeat' (first | with_reducible exact mxK_rfl | with_reducible exact mxK_wi | with_reducible exact mxK_wrow | with_reducible refine mxK_ite ?_ ?_ | with_reducible refine mxK_tr ?_ mxK_wi | with_reducible refine mxK_tr ?_ mxK_wrow)
theorem lp_270_70 {d : Nat} {Q : mxO → mxH → Prop} {i2 : Int32} {i3 : Int32} {i4 : Int32} {i5 : Int32} {i6 : Int32} {s0 : mxH} {n : Nat} (z0 : Nat) (G : mxG s0)  (hB : ∀ z, z0 ≤ z → z ≤ n → i4 = nI n) (hn : n < 2147483648) (hz : z0 ≤ n) (ob : ∀ z, z0 ≤ z → z < n → (vp_in (nI z) 6 ∧ True)) (k : H_270_86 (d + 4) (fz (F_270_70 i2 i3 i4 i5 i6) z0 n s0) i2 i3 i4 i5 i5 0 0 Q) : H_270_70 (d + 4) s0 i2 i3 i4 i5 i6 (nI z0) Q := by
  have L : ∀ (j z : Nat), z0 ≤ z → z + j = n → H_270_70 (d + 4) (fz (F_270_70 i2 i3 i4 i5 i6) z0 z s0) i2 i3 i4 i5 i6 (nI z) Q := by
    intro j
    induction j with
    | zero =>
      intro z hz0 hzn
      have hzn : z = n := by omega
      subst hzn
      have Gz : mxG (fz (F_270_70 i2 i3 i4 i5 i6) z0 z s0) := mxK_G (mxK_fz (g := fun s => s) (fun z s => K_270_70 z s) z0 z s0) G
      have hBz := hB z hz0 (by omega)
      refine tr_270_70 Gz  ⟨fun c9 => absurd (hBz ▸ c9) Int32.lt_irrefl, fun c9 => k⟩
    | succ j ih =>
      intro z hz0 hzn
      have hih := ih (z + 1) (by omega) (by omega)
      rw [nI_succ, fz_s hz0] at hih
      have Gz : mxG (fz (F_270_70 i2 i3 i4 i5 i6) z0 z s0) := mxK_G (mxK_fz (g := fun s => s) (fun z s => K_270_70 z s) z0 z s0) G
      have hBz := hB z hz0 (by omega)
      have hob := ob z hz0 (by omega)
      refine tr_270_70 Gz  ⟨fun c9 => ?_, fun c9 => absurd (hBz.symm ▸ nI_lt (by omega) hn) c9⟩
      obtain ⟨q0, hob⟩ := hob
      refine ⟨q0, ?_⟩
      intro h3 eh3
      subst eh3
      exact hih
  have L0 := L (n - z0) z0 (Nat.le_refl _) (by omega)
  simp only [fz_0] at L0
  exact L0
