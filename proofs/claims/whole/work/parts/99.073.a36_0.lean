/-! 168: StoneBacks.readWeighings()V -/
set_option maxRecDepth 8000 in
theorem tr_168_0 {d : Nat} {h : mxH} {Q : mxO → mxH → Prop} {vn vd vr vq : Nat} (G : mxG h) (S : mxS h vn vd vr vq) (H : (tapB h ∧ cB (mx_i h (vn + 1) 0) 6 ∧ (∀ (x3 : Int32) (h4 : mxH), p54 vn h x3 h4 → (∀ h8, h8 = mx_wi h4 101 1 0 → ((x3 = 0 → Q (.inr 0) (mx_ex h8)) ∧ (¬ x3 = 0 → ((∃ (q : (Nat → Int32) × Nat × Nat × Nat × Nat), okFc h8 vn q.1 q.2.1 q.2.2.1 q.2.2.2.1 q.2.2.2.2) ∧ (∀ (h15 : mxH), p56 vn h8 h15 → Q (.inl none) h15)))))))) : mx_wp (d + 5) 168 0 (mx_fr 168 [.ref 100]) [] h Q := by
  show mx_wp (d + 5) 168 0 [some (.ref 100), none] [] h Q
  refine wp_steps (i' := 6) (ls' := [some (.ref 100), none]) (st' := [.ref (mx_r h 100 4), .ref 101, .ref 117]) (h' := h) (P := ((mxT 100).1 = 10 ∧ mxG h) ∧ ((mxT 100).1 = 10 ∧ mxG h) ∧ ((mxT 100).1 = 10 ∧ mxG h) ∧ True) 6 rfl rfl ⟨⟨(congrArg Prod.fst sT_100), G⟩, ⟨(congrArg Prod.fst sT_100), G⟩, ⟨(congrArg Prod.fst sT_100), G⟩, trivial⟩ ?_
  rw [mxS_4 S]
  obtain ⟨o1, o2, H⟩ := H
  refine wp_call (b := false) (y' := 54) (as := [.ref 117, .ref 101, .ref vn]) (rest := []) (P := ((mxT 117).1 = mxRc 54 ∧ mxG h)) rfl (by with_unfolding_all rfl) ⟨(congrArg Prod.fst sT_117), G⟩ (Nat.le_of_ble_eq_true rfl) (sp_54 G (mxS_vn S) o1 o2 ?_)
  intro x3 h4 p5
  show mx_wp (d + 5) 168 7 [some (.ref 100), none] [.int x3] h4 Q
  have H := H x3 h4 p5
  have G6 : mxG h4 := mxU_G p5.1 G
  have S7 := mxS_of (mxU_r p5.1) S
  refine wp_steps (i' := 12) (ls' := [some (.ref 100), some (.int x3)]) (st' := []) (h' := mx_wi h4 101 1 0) (P := ((mxT 100).1 = 10 ∧ mxG h4) ∧ ((mxT 101).1 = 8 ∧ mxG h4) ∧ True) 5 rfl rfl ⟨⟨(congrArg Prod.fst sT_100), G6⟩, ⟨(congrArg Prod.fst sT_101), G6⟩, trivial⟩ ?_
  obtain ⟨h8, e9⟩ : ∃ z9, z9 = mx_wi h4 101 1 0 := ⟨_, rfl⟩
  rw [← e9]
  have H := H h8 e9
  have G10 : mxG h8 := e9 ▸ mxG_wi G6
  have S11 := e9 ▸ mxS_wi S7
  refine wp_steps (i' := 13) (ls' := [some (.ref 100), some (.int x3)]) (st' := [.int x3]) (h' := h8) (P := True) 1 rfl rfl trivial ?_
  refine wp_br (P := True) (c := ¬ x3 = 0) (t := 19) (st' := []) rfl rfl trivial (fun c12 => ?_) (fun c12 => ?_)
  · skip
    have H := H.2 c12
    refine wp_steps (i' := 23) (ls' := [some (.ref 100), some (.int x3)]) (st' := [.ref (mx_r h8 100 4), .ref 117]) (h' := h8) (P := ((mxT 100).1 = 10 ∧ mxG h8) ∧ ((mxT 100).1 = 10 ∧ mxG h8) ∧ True) 4 rfl rfl ⟨⟨(congrArg Prod.fst sT_100), G10⟩, ⟨(congrArg Prod.fst sT_100), G10⟩, trivial⟩ ?_
    rw [mxS_4 S11]
    obtain ⟨o13, H⟩ := H
    refine wp_call (b := false) (y' := 56) (as := [.ref 117, .ref vn]) (rest := []) (P := ((mxT 117).1 = mxRc 56 ∧ mxG h8)) rfl (by with_unfolding_all rfl) ⟨(congrArg Prod.fst sT_117), G10⟩ (Nat.le_of_ble_eq_true rfl) (sp_56 G10 (mxS_vn S) o13 ?_)
    intro h15 p16
    show mx_wp (d + 5) 168 24 [some (.ref 100), some (.int x3)] [] h15 Q
    have H := H h15 p16
    have G17 : mxG h15 := mxU_G p16.1 G10
    have S18 := mxS_of (mxU_r p16.1) S11
    exact wp_end (o := .inl none) (h' := h15) (P := True) rfl rfl trivial H
  · have c12 := Decidable.of_not_not c12
    have H := H.1 c12
    exact wp_end (o := .inr 0) (h' := mx_ex h8) (P := mx_c h8 = 292 ∧ (([] : List Value).map mx_cat).sum ≤ 8) rfl rfl ⟨G10.1, Nat.le_of_ble_eq_true rfl⟩ H
/-! 281: StoneBacksModel.scales(Z)I -/
set_option maxRecDepth 8000 in
theorem tr_281_0 {d : Nat} {h : mxH} {Q : mxO → mxH → Prop} {i1 : Int32} (G : mxG h)  (H : (cB (mx_i h 381 8) 400 ∧ cB (mx_i h 382 3) 6 ∧ cB (mx_i h 382 4) 10 ∧ (∀ (x4 : Int32) (h5 : mxH), p280 h x4 h5 → (∀ (v8 : Int32), v8 = ((if x4 = (-1) then 1 else 0) : Int32) → (∀ h9, h9 = mx_wi h5 381 0 v8 → ((0 < (mx_i h9 381 0) → Q (.inl (some (.int 0))) h9) ∧ (¬ 0 < (mx_i h9 381 0) → (∀ (v13 : Int32), v13 = ((if i1 = 0 then (x4 &&& 1023) else (x4 >>> (10 &&& 31))) : Int32) → Q (.inl (some (.int v13))) h9)))))))) : mx_wp (d + 5) 281 0 (mx_fr 281 [.ref 381, .int i1]) [] h Q := by
  show mx_wp (d + 5) 281 0 [some (.ref 381), some (.int i1), none] [] h Q
  refine wp_steps (i' := 1) (ls' := [some (.ref 381), some (.int i1), none]) (st' := [.ref 381]) (h' := h) (P := True) 1 rfl rfl trivial ?_
  obtain ⟨o1, o2, o3, H⟩ := H
  refine wp_call (b := false) (y' := 280) (as := [.ref 381]) (rest := []) (P := ((mxT 381).1 = mxRc 280 ∧ mxG h)) rfl (by with_unfolding_all rfl) ⟨(congrArg Prod.fst sT_381), G⟩ (Nat.le_of_ble_eq_true rfl) (sp_280 G o1 o2 o3 ?_)
  intro x4 h5 p6
  show mx_wp (d + 5) 281 2 [some (.ref 381), some (.int i1), none] [.int x4] h5 Q
  have H := H x4 h5 p6
  have G7 : mxG h5 := mxU_G p6.1 G
  refine wp_steps (i' := 6) (ls' := [some (.ref 381), some (.int i1), some (.int x4)]) (st' := [.int (-1), .int x4, .ref 381]) (h' := h5) (P := True) 4 rfl rfl trivial ?_
  have J : ∀ (v8 : Int32) (ev8 : v8 = ((if x4 = (-1) then 1 else 0) : Int32)), mx_wp (d + 5) 281 10 [some (.ref 381), some (.int i1), some (.int x4)] [.int v8, .ref 381] h5 Q := by
    intro v8 ev8
    have H := H v8 ev8
    refine wp_steps (i' := 11) (ls' := [some (.ref 381), some (.int i1), some (.int x4)]) (st' := []) (h' := mx_wi h5 381 0 v8) (P := ((mxT 381).1 = 11 ∧ mxG h5) ∧ True) 1 rfl rfl ⟨⟨(congrArg Prod.fst sT_381), G7⟩, trivial⟩ ?_
    obtain ⟨h9, e10⟩ : ∃ z9, z9 = mx_wi h5 381 0 v8 := ⟨_, rfl⟩
    rw [← e10]
    have H := H h9 e10
    have G11 : mxG h9 := e10 ▸ mxG_wi G7
    refine wp_steps (i' := 13) (ls' := [some (.ref 381), some (.int i1), some (.int x4)]) (st' := [.int (mx_i h9 381 0)]) (h' := h9) (P := ((mxT 381).1 = 11 ∧ mxG h9) ∧ True) 2 rfl rfl ⟨⟨(congrArg Prod.fst sT_381), G11⟩, trivial⟩ ?_
    refine wp_br (P := True) (c := (mx_i h9 381 0) ≤ 0) (t := 16) (st' := []) rfl rfl trivial (fun c12 => ?_) (fun c12 => ?_)
    · have c12 := Int32.not_lt.mpr c12
      have H := H.2 c12
      refine wp_steps (i' := 17) (ls' := [some (.ref 381), some (.int i1), some (.int x4)]) (st' := [.int i1]) (h' := h9) (P := True) 1 rfl rfl trivial ?_
      have J : ∀ (v13 : Int32) (ev13 : v13 = ((if i1 = 0 then (x4 &&& 1023) else (x4 >>> (10 &&& 31))) : Int32)), mx_wp (d + 5) 281 25 [some (.ref 381), some (.int i1), some (.int x4)] [.int v13] h9 Q := by
        intro v13 ev13
        have H := H v13 ev13
        exact wp_end (o := .inl (some (.int v13))) (h' := h9) (P := True) rfl rfl trivial H
      refine wp_br (P := True) (c := i1 = 0) (t := 22) (st' := []) rfl rfl trivial (fun c14 => ?_) (fun c14 => ?_)
      · skip
        refine wp_steps (i' := 25) (ls' := [some (.ref 381), some (.int i1), some (.int x4)]) (st' := [.int (x4 &&& 1023)]) (h' := h9) (P := True) 3 rfl rfl trivial ?_
        exact J _ (by rw [if_pos c14])
      · skip
        refine wp_steps (i' := 21) (ls' := [some (.ref 381), some (.int i1), some (.int x4)]) (st' := [.int (x4 >>> (10 &&& 31))]) (h' := h9) (P := True) 3 rfl rfl trivial ?_
        refine wp_J (j := 25) (st' := [.int (x4 >>> (10 &&& 31))]) rfl rfl ?_
        exact J _ (by rw [if_neg c14])
    · have c12 := Int32.not_le.mp c12
      have H := H.1 c12
      refine wp_steps (i' := 15) (ls' := [some (.ref 381), some (.int i1), some (.int x4)]) (st' := [.int 0]) (h' := h9) (P := True) 1 rfl rfl trivial ?_
      exact wp_end (o := .inl (some (.int 0))) (h' := h9) (P := True) rfl rfl trivial H
  refine wp_br (P := True) (c := ¬ x4 = (-1)) (t := 9) (st' := [.ref 381]) rfl rfl trivial (fun c15 => ?_) (fun c15 => ?_)
  · skip
    refine wp_steps (i' := 10) (ls' := [some (.ref 381), some (.int i1), some (.int x4)]) (st' := [.int 0, .ref 381]) (h' := h5) (P := True) 1 rfl rfl trivial ?_
    exact J _ (by rw [if_neg c15])
  · have c15 := Decidable.of_not_not c15
    refine wp_steps (i' := 8) (ls' := [some (.ref 381), some (.int i1), some (.int x4)]) (st' := [.int 1, .ref 381]) (h' := h5) (P := True) 1 rfl rfl trivial ?_
    refine wp_J (j := 10) (st' := [.int 1, .ref 381]) rfl rfl ?_
    exact J _ (by rw [if_pos c15])
/-! 282: StoneBacksModel.weigh()I -/
def H_282_31 (d : Nat) (h : mxH) (i1 : Int32) (i2 : Int32) (i3 : Int32) (i4 : Int32) (Q : mxO → mxH → Prop) : Prop := ∀ (w5 : Option Value) (w6 : Option Value) (w7 : Option Value) (w8 : Option Value) (w9 : Option Value), mx_wp d 282 31 [some (.ref 381), some (.int i1), some (.int i2), some (.int i3), some (.int i4), w5, w6, w7, w8, w9] [] h Q
def H_282_41 (d : Nat) (h : mxH) (i1 : Int32) (i2 : Int32) (i3 : Int32) (i4 : Int32) (i5 : Int32) (Q : mxO → mxH → Prop) : Prop := ∀ (w6 : Option Value) (w7 : Option Value) (w8 : Option Value) (w9 : Option Value), mx_wp d 282 41 [some (.ref 381), some (.int i1), some (.int i2), some (.int i3), some (.int i4), some (.int i5), w6, w7, w8, w9] [] h Q
def H_282_51 (d : Nat) (h : mxH) (i1 : Int32) (i2 : Int32) (i3 : Int32) (i4 : Int32) (i5 : Int32) (i6 : Int32) (i7 : Int32) (Q : mxO → mxH → Prop) : Prop := ∀ (w8 : Option Value) (w9 : Option Value), mx_wp d 282 51 [some (.ref 381), some (.int i1), some (.int i2), some (.int i3), some (.int i4), some (.int i5), some (.int i6), some (.int i7), w8, w9] [] h Q
def H_282_58 (d : Nat) (h : mxH) (i1 : Int32) (i2 : Int32) (i3 : Int32) (i4 : Int32) (i5 : Int32) (i6 : Int32) (i7 : Int32) (i8 : Int32) (i9 : Int32) (Q : mxO → mxH → Prop) : Prop := mx_wp d 282 58 [some (.ref 381), some (.int i1), some (.int i2), some (.int i3), some (.int i4), some (.int i5), some (.int i6), some (.int i7), some (.int i8), some (.int i9)] [] h Q
set_option maxRecDepth 8000 in
theorem tr_282_0 {d : Nat} {h : mxH} {Q : mxO → mxH → Prop}  (G : mxG h)  (H : (cB (mx_i h 381 8) 400 ∧ cB (mx_i h 382 3) 6 ∧ cB (mx_i h 382 4) 10 ∧ (∀ (x4 : Int32) (h5 : mxH), p280 h x4 h5 → (∀ (v8 : Int32), v8 = ((if x4 = (-1) then 1 else 0) : Int32) → (∀ h9, h9 = mx_wi h5 381 0 v8 → ((0 < (mx_i h9 381 0) → (∀ (v13 : Int32), v13 = ((if 0 < (mx_i h9 381 0) then 0 else (-1)) : Int32) → Q (.inl (some (.int v13))) h9)) ∧ (¬ 0 < (mx_i h9 381 0) → (((V_195 (mx_i h9 382) x4) < 2 → (∀ (v16 : Int32), v16 = ((if 0 < (mx_i h9 381 0) then 0 else (-1)) : Int32) → Q (.inl (some (.int v16))) h9)) ∧ (¬ (V_195 (mx_i h9 382) x4) < 2 → H_282_31 (d + 5) h9 x4 (-1) 2000000000 0 Q))))))))) : mx_wp (d + 5) 282 0 (mx_fr 282 [.ref 381]) [] h Q := by
  show mx_wp (d + 5) 282 0 [some (.ref 381), none, none, none, none, none, none, none, none, none] [] h Q
  refine wp_steps (i' := 1) (ls' := [some (.ref 381), none, none, none, none, none, none, none, none, none]) (st' := [.ref 381]) (h' := h) (P := True) 1 rfl rfl trivial ?_
  obtain ⟨o1, o2, o3, H⟩ := H
  refine wp_call (b := false) (y' := 280) (as := [.ref 381]) (rest := []) (P := ((mxT 381).1 = mxRc 280 ∧ mxG h)) rfl (by with_unfolding_all rfl) ⟨(congrArg Prod.fst sT_381), G⟩ (Nat.le_of_ble_eq_true rfl) (sp_280 G o1 o2 o3 ?_)
  intro x4 h5 p6
  show mx_wp (d + 5) 282 2 [some (.ref 381), none, none, none, none, none, none, none, none, none] [.int x4] h5 Q
  have H := H x4 h5 p6
  have G7 : mxG h5 := mxU_G p6.1 G
  refine wp_steps (i' := 6) (ls' := [some (.ref 381), some (.int x4), none, none, none, none, none, none, none, none]) (st' := [.int (-1), .int x4, .ref 381]) (h' := h5) (P := True) 4 rfl rfl trivial ?_
  have J : ∀ (v8 : Int32) (ev8 : v8 = ((if x4 = (-1) then 1 else 0) : Int32)), mx_wp (d + 5) 282 10 [some (.ref 381), some (.int x4), none, none, none, none, none, none, none, none] [.int v8, .ref 381] h5 Q := by
    intro v8 ev8
    have H := H v8 ev8
    refine wp_steps (i' := 11) (ls' := [some (.ref 381), some (.int x4), none, none, none, none, none, none, none, none]) (st' := []) (h' := mx_wi h5 381 0 v8) (P := ((mxT 381).1 = 11 ∧ mxG h5) ∧ True) 1 rfl rfl ⟨⟨(congrArg Prod.fst sT_381), G7⟩, trivial⟩ ?_
    obtain ⟨h9, e10⟩ : ∃ z9, z9 = mx_wi h5 381 0 v8 := ⟨_, rfl⟩
    rw [← e10]
    have H := H h9 e10
    have G11 : mxG h9 := e10 ▸ mxG_wi G7
    refine wp_steps (i' := 13) (ls' := [some (.ref 381), some (.int x4), none, none, none, none, none, none, none, none]) (st' := [.int (mx_i h9 381 0)]) (h' := h9) (P := ((mxT 381).1 = 11 ∧ mxG h9) ∧ True) 2 rfl rfl ⟨⟨(congrArg Prod.fst sT_381), G11⟩, trivial⟩ ?_
    refine wp_br (P := True) (c := 0 < (mx_i h9 381 0)) (t := 18) (st' := []) rfl rfl trivial (fun c12 => ?_) (fun c12 => ?_)
    · skip
      have H := H.1 c12
      refine wp_steps (i' := 20) (ls' := [some (.ref 381), some (.int x4), none, none, none, none, none, none, none, none]) (st' := [.int (mx_i h9 381 0)]) (h' := h9) (P := ((mxT 381).1 = 11 ∧ mxG h9) ∧ True) 2 rfl rfl ⟨⟨(congrArg Prod.fst sT_381), G11⟩, trivial⟩ ?_
      have J : ∀ (v13 : Int32) (ev13 : v13 = ((if 0 < (mx_i h9 381 0) then 0 else (-1)) : Int32)), mx_wp (d + 5) 282 24 [some (.ref 381), some (.int x4), none, none, none, none, none, none, none, none] [.int v13] h9 Q := by
        intro v13 ev13
        have H := H v13 ev13
        exact wp_end (o := .inl (some (.int v13))) (h' := h9) (P := True) rfl rfl trivial H
      refine wp_br (P := True) (c := (mx_i h9 381 0) ≤ 0) (t := 23) (st' := []) rfl rfl trivial (fun c14 => ?_) (fun c14 => ?_)
      · have c14 := Int32.not_lt.mpr c14
        refine wp_steps (i' := 24) (ls' := [some (.ref 381), some (.int x4), none, none, none, none, none, none, none, none]) (st' := [.int (-1)]) (h' := h9) (P := True) 1 rfl rfl trivial ?_
        exact J _ (by rw [if_neg c14])
      · have c14 := Int32.not_le.mp c14
        refine wp_steps (i' := 22) (ls' := [some (.ref 381), some (.int x4), none, none, none, none, none, none, none, none]) (st' := [.int 0]) (h' := h9) (P := True) 1 rfl rfl trivial ?_
        refine wp_J (j := 24) (st' := [.int 0]) rfl rfl ?_
        exact J _ (by rw [if_pos c14])
    · skip
      have H := H.2 c12
      refine wp_steps (i' := 15) (ls' := [some (.ref 381), some (.int x4), none, none, none, none, none, none, none, none]) (st' := [.int x4]) (h' := h9) (P := True) 1 rfl rfl trivial ?_
      refine wp_call (b := false) (y' := 195) (as := [.int x4]) (rest := []) (P := True) rfl (by with_unfolding_all rfl) trivial (Nat.le_of_ble_eq_true rfl) (sp_195 G11 ?_)
      show mx_wp (d + 5) 282 16 [some (.ref 381), some (.int x4), none, none, none, none, none, none, none, none] [.int (V_195 (mx_i h9 382) x4)] h9 Q
      refine wp_steps (i' := 17) (ls' := [some (.ref 381), some (.int x4), none, none, none, none, none, none, none, none]) (st' := [.int 2, .int (V_195 (mx_i h9 382) x4)]) (h' := h9) (P := True) 1 rfl rfl trivial ?_
      refine wp_br (P := True) (c := 2 ≤ (V_195 (mx_i h9 382) x4)) (t := 25) (st' := []) rfl rfl trivial (fun c15 => ?_) (fun c15 => ?_)
      · have c15 := Int32.not_lt.mpr c15
        have H := H.2 c15
        refine wp_steps (i' := 31) (ls' := [some (.ref 381), some (.int x4), some (.int (-1)), some (.int 2000000000), some (.int 0), none, none, none, none, none]) (st' := []) (h' := h9) (P := True) 6 rfl rfl trivial ?_
        exact H _ _ _ _ _
      · have c15 := Int32.not_le.mp c15
        have H := H.1 c15
        refine wp_steps (i' := 20) (ls' := [some (.ref 381), some (.int x4), none, none, none, none, none, none, none, none]) (st' := [.int (mx_i h9 381 0)]) (h' := h9) (P := ((mxT 381).1 = 11 ∧ mxG h9) ∧ True) 2 rfl rfl ⟨⟨(congrArg Prod.fst sT_381), G11⟩, trivial⟩ ?_
        have J : ∀ (v16 : Int32) (ev16 : v16 = ((if 0 < (mx_i h9 381 0) then 0 else (-1)) : Int32)), mx_wp (d + 5) 282 24 [some (.ref 381), some (.int x4), none, none, none, none, none, none, none, none] [.int v16] h9 Q := by
          intro v16 ev16
          have H := H v16 ev16
          exact wp_end (o := .inl (some (.int v16))) (h' := h9) (P := True) rfl rfl trivial H
        refine wp_br (P := True) (c := (mx_i h9 381 0) ≤ 0) (t := 23) (st' := []) rfl rfl trivial (fun c17 => ?_) (fun c17 => ?_)
        · have c17 := Int32.not_lt.mpr c17
          refine wp_steps (i' := 24) (ls' := [some (.ref 381), some (.int x4), none, none, none, none, none, none, none, none]) (st' := [.int (-1)]) (h' := h9) (P := True) 1 rfl rfl trivial ?_
          exact J _ (by rw [if_neg c17])
        · have c17 := Int32.not_le.mp c17
          refine wp_steps (i' := 22) (ls' := [some (.ref 381), some (.int x4), none, none, none, none, none, none, none, none]) (st' := [.int 0]) (h' := h9) (P := True) 1 rfl rfl trivial ?_
          refine wp_J (j := 24) (st' := [.int 0]) rfl rfl ?_
          exact J _ (by rw [if_pos c17])
  refine wp_br (P := True) (c := ¬ x4 = (-1)) (t := 9) (st' := [.ref 381]) rfl rfl trivial (fun c18 => ?_) (fun c18 => ?_)
  · skip
    refine wp_steps (i' := 10) (ls' := [some (.ref 381), some (.int x4), none, none, none, none, none, none, none, none]) (st' := [.int 0, .ref 381]) (h' := h5) (P := True) 1 rfl rfl trivial ?_
    exact J _ (by rw [if_neg c18])
  · have c18 := Decidable.of_not_not c18
    refine wp_steps (i' := 8) (ls' := [some (.ref 381), some (.int x4), none, none, none, none, none, none, none, none]) (st' := [.int 1, .ref 381]) (h' := h5) (P := True) 1 rfl rfl trivial ?_
    refine wp_J (j := 10) (st' := [.int 1, .ref 381]) rfl rfl ?_
    exact J _ (by rw [if_pos c18])
set_option maxRecDepth 8000 in
theorem tr_282_31 {d : Nat} {h : mxH} {Q : mxO → mxH → Prop}  {i1 : Int32} {i2 : Int32} {i3 : Int32} {i4 : Int32} (G : mxG h)  (H : ((i4 < (mx_i h 382 3) → H_282_41 (d + 5) h i1 i2 i3 i4 (i4 + 1) Q) ∧ (¬ i4 < (mx_i h 382 3) → Q (.inl (some (.int i2))) h))) : H_282_31 (d + 5) h i1 i2 i3 i4 Q := by
  intro w5 w6 w7 w8 w9
  show mx_wp (d + 5) 282 31 [some (.ref 381), some (.int i1), some (.int i2), some (.int i3), some (.int i4), w5, w6, w7, w8, w9] [] h Q
  refine wp_steps (i' := 36) (ls' := [some (.ref 381), some (.int i1), some (.int i2), some (.int i3), some (.int i4), w5, w6, w7, w8, w9]) (st' := [.int (mx_i h 382 3), .int i4]) (h' := h) (P := ((mxT 381).1 = 11 ∧ mxG h) ∧ (((mxT 382).1 = 50 ∧ mxG h) ∧ vp_in 3 (mxT 382).2) ∧ True) 5 rfl rfl ⟨⟨(congrArg Prod.fst sT_381), G⟩, (cA sT_382 G (vpl rfl)), trivial⟩ ?_
  refine wp_br (P := True) (c := (mx_i h 382 3) ≤ i4) (t := 107) (st' := []) rfl rfl trivial (fun c1 => ?_) (fun c1 => ?_)
  · have c1 := Int32.not_lt.mpr c1
    have H := H.2 c1
    refine wp_steps (i' := 108) (ls' := [some (.ref 381), some (.int i1), some (.int i2), some (.int i3), some (.int i4), w5, w6, w7, w8, w9]) (st' := [.int i2]) (h' := h) (P := True) 1 rfl rfl trivial ?_
    exact wp_end (o := .inl (some (.int i2))) (h' := h) (P := True) rfl rfl trivial H
  · have c1 := Int32.not_le.mp c1
    have H := H.1 c1
    refine wp_steps (i' := 41) (ls' := [some (.ref 381), some (.int i1), some (.int i2), some (.int i3), some (.int i4), some (.int (i4 + 1)), w6, w7, w8, w9]) (st' := []) (h' := h) (P := True) 4 rfl rfl trivial ?_
    exact H _ _ _ _
set_option maxRecDepth 8000 in
theorem tr_282_41 {d : Nat} {h : mxH} {Q : mxO → mxH → Prop}  {i1 : Int32} {i2 : Int32} {i3 : Int32} {i4 : Int32} {i5 : Int32} (G : mxG h)  (H : ((i5 < (mx_i h 382 3) → H_282_51 (d + 5) h i1 i2 i3 i4 i5 0 0 Q) ∧ (¬ i5 < (mx_i h 382 3) → H_282_31 (d + 5) h i1 i2 i3 (i4 + 1) Q))) : H_282_41 (d + 5) h i1 i2 i3 i4 i5 Q := by
  intro w6 w7 w8 w9
  show mx_wp (d + 5) 282 41 [some (.ref 381), some (.int i1), some (.int i2), some (.int i3), some (.int i4), some (.int i5), w6, w7, w8, w9] [] h Q
  refine wp_steps (i' := 46) (ls' := [some (.ref 381), some (.int i1), some (.int i2), some (.int i3), some (.int i4), some (.int i5), w6, w7, w8, w9]) (st' := [.int (mx_i h 382 3), .int i5]) (h' := h) (P := ((mxT 381).1 = 11 ∧ mxG h) ∧ (((mxT 382).1 = 50 ∧ mxG h) ∧ vp_in 3 (mxT 382).2) ∧ True) 5 rfl rfl ⟨⟨(congrArg Prod.fst sT_381), G⟩, (cA sT_382 G (vpl rfl)), trivial⟩ ?_
  refine wp_br (P := True) (c := (mx_i h 382 3) ≤ i5) (t := 105) (st' := []) rfl rfl trivial (fun c1 => ?_) (fun c1 => ?_)
  · have c1 := Int32.not_lt.mpr c1
    have H := H.2 c1
    refine wp_steps (i' := 106) (ls' := [some (.ref 381), some (.int i1), some (.int i2), some (.int i3), some (.int (i4 + 1)), some (.int i5), w6, w7, w8, w9]) (st' := []) (h' := h) (P := True) 1 rfl rfl trivial ?_
    refine wp_J (j := 31) (st' := []) rfl rfl ?_
    exact H _ _ _ _ _
  · have c1 := Int32.not_le.mp c1
    have H := H.1 c1
    refine wp_steps (i' := 51) (ls' := [some (.ref 381), some (.int i1), some (.int i2), some (.int i3), some (.int i4), some (.int i5), some (.int 0), some (.int 0), w8, w9]) (st' := []) (h' := h) (P := True) 4 rfl rfl trivial ?_
    exact H _ _
set_option maxRecDepth 8000 in
theorem tr_282_51 {d : Nat} {h : mxH} {Q : mxO → mxH → Prop}  {i1 : Int32} {i2 : Int32} {i3 : Int32} {i4 : Int32} {i5 : Int32} {i6 : Int32} {i7 : Int32} (G : mxG h)  (H : ((i7 < 3 → H_282_58 (d + 5) h i1 i2 i3 i4 i5 i6 i7 0 0 Q) ∧ (¬ i7 < 3 → (∀ (v2 : Int32), v2 = ((if i6 < i3 then ((10 * i4) + i5) else i2) : Int32) → (∀ (v3 : Int32), v3 = ((if i6 < i3 then i6 else i3) : Int32) → H_282_41 (d + 5) h i1 v2 v3 i4 (i5 + 1) Q))))) : H_282_51 (d + 5) h i1 i2 i3 i4 i5 i6 i7 Q := by
  intro w8 w9
  show mx_wp (d + 5) 282 51 [some (.ref 381), some (.int i1), some (.int i2), some (.int i3), some (.int i4), some (.int i5), some (.int i6), some (.int i7), w8, w9] [] h Q
  refine wp_steps (i' := 53) (ls' := [some (.ref 381), some (.int i1), some (.int i2), some (.int i3), some (.int i4), some (.int i5), some (.int i6), some (.int i7), w8, w9]) (st' := [.int 3, .int i7]) (h' := h) (P := True) 2 rfl rfl trivial ?_
  refine wp_br (P := True) (c := 3 ≤ i7) (t := 91) (st' := []) rfl rfl trivial (fun c1 => ?_) (fun c1 => ?_)
  · have c1 := Int32.not_lt.mpr c1
    have H := H.2 c1
    refine wp_steps (i' := 93) (ls' := [some (.ref 381), some (.int i1), some (.int i2), some (.int i3), some (.int i4), some (.int i5), some (.int i6), some (.int i7), w8, w9]) (st' := [.int i3, .int i6]) (h' := h) (P := True) 2 rfl rfl trivial ?_
    have J : ∀ (v2 : Int32) (v3 : Int32) (ev2 : v2 = ((if i6 < i3 then ((10 * i4) + i5) else i2) : Int32)) (ev3 : v3 = ((if i6 < i3 then i6 else i3) : Int32)), mx_wp (d + 5) 282 103 [some (.ref 381), some (.int i1), some (.int v2), some (.int v3), some (.int i4), some (.int i5), some (.int i6), some (.int i7), w8, w9] [] h Q := by
      intro v2 v3 ev2 ev3
      have H := H v2 ev2 v3 ev3
      refine wp_steps (i' := 104) (ls' := [some (.ref 381), some (.int i1), some (.int v2), some (.int v3), some (.int i4), some (.int (i5 + 1)), some (.int i6), some (.int i7), w8, w9]) (st' := []) (h' := h) (P := True) 1 rfl rfl trivial ?_
      refine wp_J (j := 41) (st' := []) rfl rfl ?_
      exact H _ _ _ _
    refine wp_br (P := True) (c := i6 < i3) (t := 95) (st' := []) rfl rfl trivial (fun c4 => ?_) (fun c4 => ?_)
    · skip
      refine wp_steps (i' := 103) (ls' := [some (.ref 381), some (.int i1), some (.int ((10 * i4) + i5)), some (.int i6), some (.int i4), some (.int i5), some (.int i6), some (.int i7), w8, w9]) (st' := []) (h' := h) (P := True) 8 rfl rfl trivial ?_
      exact J _ _ (by rw [if_pos c4]) (by rw [if_pos c4])
    · skip
      refine wp_J (j := 103) (st' := []) rfl rfl ?_
      exact J _ _ (by rw [if_neg c4]) (by rw [if_neg c4])
  · have c1 := Int32.not_le.mp c1
    have H := H.1 c1
    refine wp_steps (i' := 58) (ls' := [some (.ref 381), some (.int i1), some (.int i2), some (.int i3), some (.int i4), some (.int i5), some (.int i6), some (.int i7), some (.int 0), some (.int 0)]) (st' := []) (h' := h) (P := True) 4 rfl rfl trivial ?_
    exact H 
set_option maxRecDepth 8000 in
theorem tr_282_58 {d : Nat} {h : mxH} {Q : mxO → mxH → Prop}  {i1 : Int32} {i2 : Int32} {i3 : Int32} {i4 : Int32} {i5 : Int32} {i6 : Int32} {i7 : Int32} {i8 : Int32} {i9 : Int32} (G : mxG h)  (H : ((10 < i9 → H_282_51 (d + 5) h i1 i2 i3 i4 i5 (V_193 (mx_i h 382) i6 i8) (i7 + 1) Q) ∧ (¬ 10 < i9 → ((((V_194 (mx_i h 382) i1 i9) = 0 → True) ∧ (¬ (V_194 (mx_i h 382) i1 i9) = 0 → ((i9 = 10 → (cB (mx_i h 382 4) 10 ∧ ((((-1) : Int32) = (-1) → True) ∧ (¬ ((-1) : Int32) = (-1) → (vp_in ((69 + (6 * ((-1) : Int32))) + (2 : Int32)) 769 ∧ (vp_in ((69 + (6 * ((-1) : Int32))) + (4 : Int32)) 769 ∧ True)))) ∧ True)) ∧ (¬ i9 = 10 → (cB (mx_i h 382 4) 10 ∧ ((i9 = (-1) → True) ∧ (¬ i9 = (-1) → (vp_in ((69 + (6 * i9)) + (2 : Int32)) 769 ∧ (vp_in ((69 + (6 * i9)) + (4 : Int32)) 769 ∧ True)))) ∧ True))))) ∧ (∀ (v2 : Int32), v2 = ((if (V_194 (mx_i h 382) i1 i9) = 0 then 0 else (if i9 = 10 then (if (V_279 (mx_i h 382) i4 i5 ((-1) : Int32)) = i7 then 1 else 0) else (if (V_279 (mx_i h 382) i4 i5 i9) = i7 then 1 else 0))) : Int32) → H_282_58 (d + 5) h i1 i2 i3 i4 i5 i6 i7 (i8 + v2) (i9 + 1) Q))))) : H_282_58 (d + 5) h i1 i2 i3 i4 i5 i6 i7 i8 i9 Q := by
  show mx_wp (d + 5) 282 58 [some (.ref 381), some (.int i1), some (.int i2), some (.int i3), some (.int i4), some (.int i5), some (.int i6), some (.int i7), some (.int i8), some (.int i9)] [] h Q
  refine wp_steps (i' := 60) (ls' := [some (.ref 381), some (.int i1), some (.int i2), some (.int i3), some (.int i4), some (.int i5), some (.int i6), some (.int i7), some (.int i8), some (.int i9)]) (st' := [.int 10, .int i9]) (h' := h) (P := True) 2 rfl rfl trivial ?_
  refine wp_br (P := True) (c := 10 < i9) (t := 85) (st' := []) rfl rfl trivial (fun c1 => ?_) (fun c1 => ?_)
  · skip
    have H := H.1 c1
    refine wp_steps (i' := 87) (ls' := [some (.ref 381), some (.int i1), some (.int i2), some (.int i3), some (.int i4), some (.int i5), some (.int i6), some (.int i7), some (.int i8), some (.int i9)]) (st' := [.int i8, .int i6]) (h' := h) (P := True) 2 rfl rfl trivial ?_
    refine wp_call (b := false) (y' := 193) (as := [.int i6, .int i8]) (rest := []) (P := True) rfl (by with_unfolding_all rfl) trivial (Nat.le_of_ble_eq_true rfl) (sp_193 G ?_)
    show mx_wp (d + 5) 282 88 [some (.ref 381), some (.int i1), some (.int i2), some (.int i3), some (.int i4), some (.int i5), some (.int i6), some (.int i7), some (.int i8), some (.int i9)] [.int (V_193 (mx_i h 382) i6 i8)] h Q
    refine wp_steps (i' := 90) (ls' := [some (.ref 381), some (.int i1), some (.int i2), some (.int i3), some (.int i4), some (.int i5), some (.int (V_193 (mx_i h 382) i6 i8)), some (.int (i7 + 1)), some (.int i8), some (.int i9)]) (st' := []) (h' := h) (P := True) 2 rfl rfl trivial ?_
    refine wp_J (j := 51) (st' := []) rfl rfl ?_
    exact H _ _
  · skip
    have H := H.2 c1
    refine wp_steps (i' := 64) (ls' := [some (.ref 381), some (.int i1), some (.int i2), some (.int i3), some (.int i4), some (.int i5), some (.int i6), some (.int i7), some (.int i8), some (.int i9)]) (st' := [.int i9, .int i1, .int i8]) (h' := h) (P := True) 3 rfl rfl trivial ?_
    refine wp_call (b := false) (y' := 194) (as := [.int i1, .int i9]) (rest := [.int i8]) (P := True) rfl (by with_unfolding_all rfl) trivial (Nat.le_of_ble_eq_true rfl) (sp_194 G ?_)
    show mx_wp (d + 5) 282 65 [some (.ref 381), some (.int i1), some (.int i2), some (.int i3), some (.int i4), some (.int i5), some (.int i6), some (.int i7), some (.int i8), some (.int i9)] [.int (V_194 (mx_i h 382) i1 i9), .int i8] h Q
    have J : ∀ (v2 : Int32) (ev2 : v2 = ((if (V_194 (mx_i h 382) i1 i9) = 0 then 0 else (if i9 = 10 then (if (V_279 (mx_i h 382) i4 i5 ((-1) : Int32)) = i7 then 1 else 0) else (if (V_279 (mx_i h 382) i4 i5 i9) = i7 then 1 else 0))) : Int32)), mx_wp (d + 5) 282 81 [some (.ref 381), some (.int i1), some (.int i2), some (.int i3), some (.int i4), some (.int i5), some (.int i6), some (.int i7), some (.int i8), some (.int i9)] [.int v2, .int i8] h Q := by
      intro v2 ev2
      have H := H.2 v2 ev2
      refine wp_steps (i' := 84) (ls' := [some (.ref 381), some (.int i1), some (.int i2), some (.int i3), some (.int i4), some (.int i5), some (.int i6), some (.int i7), some (.int (i8 + v2)), some (.int (i9 + 1))]) (st' := []) (h' := h) (P := True) 3 rfl rfl trivial ?_
      refine wp_J (j := 58) (st' := []) rfl rfl ?_
      exact H 
    have H := H.1
    refine wp_br (P := True) (c := (V_194 (mx_i h 382) i1 i9) = 0) (t := 80) (st' := [.int i8]) rfl rfl trivial (fun c3 => ?_) (fun c3 => ?_)
    · skip
      refine wp_steps (i' := 81) (ls' := [some (.ref 381), some (.int i1), some (.int i2), some (.int i3), some (.int i4), some (.int i5), some (.int i6), some (.int i7), some (.int i8), some (.int i9)]) (st' := [.int 0, .int i8]) (h' := h) (P := True) 1 rfl rfl trivial ?_
      exact J _ (by rw [if_pos c3])
    · skip
      have H := H.2 c3
      refine wp_steps (i' := 71) (ls' := [some (.ref 381), some (.int i1), some (.int i2), some (.int i3), some (.int i4), some (.int i5), some (.int i6), some (.int i7), some (.int i8), some (.int i9)]) (st' := [.int 10, .int i9, .int i5, .int i4, .ref 381, .int i8]) (h' := h) (P := True) 5 rfl rfl trivial ?_
      refine wp_br (P := True) (c := ¬ i9 = 10) (t := 74) (st' := [.int i5, .int i4, .ref 381, .int i8]) rfl rfl trivial (fun c4 => ?_) (fun c4 => ?_)
      · skip
        have H := H.2 c4
        refine wp_steps (i' := 75) (ls' := [some (.ref 381), some (.int i1), some (.int i2), some (.int i3), some (.int i4), some (.int i5), some (.int i6), some (.int i7), some (.int i8), some (.int i9)]) (st' := [.int i9, .int i5, .int i4, .ref 381, .int i8]) (h' := h) (P := True) 1 rfl rfl trivial ?_
        obtain ⟨o5, o6, H⟩ := H
        refine wp_call (b := false) (y' := 279) (as := [.ref 381, .int i4, .int i5, .int i9]) (rest := [.int i8]) (P := ((mxT 381).1 = mxRc 279 ∧ mxG h)) rfl (by with_unfolding_all rfl) ⟨(congrArg Prod.fst sT_381), G⟩ (Nat.le_of_ble_eq_true rfl) (sp_279 G o5 o6 ?_)
        show mx_wp (d + 5) 282 76 [some (.ref 381), some (.int i1), some (.int i2), some (.int i3), some (.int i4), some (.int i5), some (.int i6), some (.int i7), some (.int i8), some (.int i9)] [.int (V_279 (mx_i h 382) i4 i5 i9), .int i8] h Q
        refine wp_steps (i' := 77) (ls' := [some (.ref 381), some (.int i1), some (.int i2), some (.int i3), some (.int i4), some (.int i5), some (.int i6), some (.int i7), some (.int i8), some (.int i9)]) (st' := [.int i7, .int (V_279 (mx_i h 382) i4 i5 i9), .int i8]) (h' := h) (P := True) 1 rfl rfl trivial ?_
        refine wp_br (P := True) (c := ¬ (V_279 (mx_i h 382) i4 i5 i9) = i7) (t := 80) (st' := [.int i8]) rfl rfl trivial (fun c7 => ?_) (fun c7 => ?_)
        · skip
          refine wp_steps (i' := 81) (ls' := [some (.ref 381), some (.int i1), some (.int i2), some (.int i3), some (.int i4), some (.int i5), some (.int i6), some (.int i7), some (.int i8), some (.int i9)]) (st' := [.int 0, .int i8]) (h' := h) (P := True) 1 rfl rfl trivial ?_
          exact J _ (by rw [if_neg c3, if_neg c4, if_neg c7])
        · have c7 := Decidable.of_not_not c7
          refine wp_steps (i' := 79) (ls' := [some (.ref 381), some (.int i1), some (.int i2), some (.int i3), some (.int i4), some (.int i5), some (.int i6), some (.int i7), some (.int i8), some (.int i9)]) (st' := [.int 1, .int i8]) (h' := h) (P := True) 1 rfl rfl trivial ?_
          refine wp_J (j := 81) (st' := [.int 1, .int i8]) rfl rfl ?_
          exact J _ (by rw [if_neg c3, if_neg c4, if_pos c7])
      · have c4 := Decidable.of_not_not c4
        have H := H.1 c4
        refine wp_steps (i' := 73) (ls' := [some (.ref 381), some (.int i1), some (.int i2), some (.int i3), some (.int i4), some (.int i5), some (.int i6), some (.int i7), some (.int i8), some (.int i9)]) (st' := [.int (-1), .int i5, .int i4, .ref 381, .int i8]) (h' := h) (P := True) 1 rfl rfl trivial ?_
        refine wp_J (j := 75) (st' := [.int (-1), .int i5, .int i4, .ref 381, .int i8]) rfl rfl ?_
        obtain ⟨o8, o9, H⟩ := H
        refine wp_call (b := false) (y' := 279) (as := [.ref 381, .int i4, .int i5, .int (-1)]) (rest := [.int i8]) (P := ((mxT 381).1 = mxRc 279 ∧ mxG h)) rfl (by with_unfolding_all rfl) ⟨(congrArg Prod.fst sT_381), G⟩ (Nat.le_of_ble_eq_true rfl) (sp_279 G o8 o9 ?_)
        show mx_wp (d + 5) 282 76 [some (.ref 381), some (.int i1), some (.int i2), some (.int i3), some (.int i4), some (.int i5), some (.int i6), some (.int i7), some (.int i8), some (.int i9)] [.int (V_279 (mx_i h 382) i4 i5 ((-1) : Int32)), .int i8] h Q
        refine wp_steps (i' := 77) (ls' := [some (.ref 381), some (.int i1), some (.int i2), some (.int i3), some (.int i4), some (.int i5), some (.int i6), some (.int i7), some (.int i8), some (.int i9)]) (st' := [.int i7, .int (V_279 (mx_i h 382) i4 i5 ((-1) : Int32)), .int i8]) (h' := h) (P := True) 1 rfl rfl trivial ?_
        refine wp_br (P := True) (c := ¬ (V_279 (mx_i h 382) i4 i5 ((-1) : Int32)) = i7) (t := 80) (st' := [.int i8]) rfl rfl trivial (fun c10 => ?_) (fun c10 => ?_)
        · skip
          refine wp_steps (i' := 81) (ls' := [some (.ref 381), some (.int i1), some (.int i2), some (.int i3), some (.int i4), some (.int i5), some (.int i6), some (.int i7), some (.int i8), some (.int i9)]) (st' := [.int 0, .int i8]) (h' := h) (P := True) 1 rfl rfl trivial ?_
          exact J _ (by rw [if_neg c3, if_pos c4, if_neg c10])
        · have c10 := Decidable.of_not_not c10
          refine wp_steps (i' := 79) (ls' := [some (.ref 381), some (.int i1), some (.int i2), some (.int i3), some (.int i4), some (.int i5), some (.int i6), some (.int i7), some (.int i8), some (.int i9)]) (st' := [.int 1, .int i8]) (h' := h) (P := True) 1 rfl rfl trivial ?_
          refine wp_J (j := 81) (st' := [.int 1, .int i8]) rfl rfl ?_
          exact J _ (by rw [if_neg c3, if_pos c4, if_pos c10])
def F_282_58 (r : Nat → Int32) (i1 : Int32) (i2 : Int32) (i3 : Int32) (i4 : Int32) (i5 : Int32) (i6 : Int32) (i7 : Int32) (z : Nat) (s : Int32) : Int32 := (s + ((if (V_194 (r) i1 (nI z)) = 0 then 0 else (if (nI z) = 10 then (if (V_279 (r) i4 i5 ((-1) : Int32)) = i7 then 1 else 0) else (if (V_279 (r) i4 i5 (nI z)) = i7 then 1 else 0))) : Int32))
theorem lp_282_58 {d : Nat} {h : mxH} {Q : mxO → mxH → Prop} {i1 : Int32} {i2 : Int32} {i3 : Int32} {i4 : Int32} {i5 : Int32} {i6 : Int32} {i7 : Int32} {s0 : Int32} {n : Nat} (z0 : Nat) (G : mxG h)  (hB : (10 : Int32) = nI (n - 1)) (hn1 : 1 ≤ n) (hn : n < 2147483648) (hz : z0 ≤ n) (ob : ∀ z, z0 ≤ z → z < n → ((((V_194 (mx_i h 382) i1 (nI z)) = 0 → True) ∧ (¬ (V_194 (mx_i h 382) i1 (nI z)) = 0 → (((nI z) = 10 → (cB (mx_i h 382 4) 10 ∧ ((((-1) : Int32) = (-1) → True) ∧ (¬ ((-1) : Int32) = (-1) → (vp_in ((69 + (6 * ((-1) : Int32))) + (2 : Int32)) 769 ∧ (vp_in ((69 + (6 * ((-1) : Int32))) + (4 : Int32)) 769 ∧ True)))) ∧ True)) ∧ (¬ (nI z) = 10 → (cB (mx_i h 382 4) 10 ∧ (((nI z) = (-1) → True) ∧ (¬ (nI z) = (-1) → (vp_in ((69 + (6 * (nI z))) + (2 : Int32)) 769 ∧ (vp_in ((69 + (6 * (nI z))) + (4 : Int32)) 769 ∧ True)))) ∧ True))))) ∧ True)) (k : H_282_51 (d + 5) h i1 i2 i3 i4 i5 (V_193 (mx_i h 382) i6 (fz (F_282_58 (mx_i h 382) i1 i2 i3 i4 i5 i6 i7) z0 n s0)) (i7 + 1) Q) : H_282_58 (d + 5) h i1 i2 i3 i4 i5 i6 i7 s0 (nI z0) Q := by
  have L : ∀ (j z : Nat), z0 ≤ z → z + j = n → H_282_58 (d + 5) h i1 i2 i3 i4 i5 i6 i7 (fz (F_282_58 (mx_i h 382) i1 i2 i3 i4 i5 i6 i7) z0 z s0) (nI z) Q := by
    intro j
    induction j with
    | zero =>
      intro z hz0 hzn
      have hzn : z = n := by omega
      subst hzn
      refine tr_282_58 G  ⟨fun c9 => k, fun c9 => absurd (hB.symm ▸ nI_lt (by omega) hn) c9⟩
    | succ j ih =>
      intro z hz0 hzn
      have hih := ih (z + 1) (by omega) (by omega)
      rw [nI_succ, fz_s hz0] at hih
      have hob := ob z hz0 (by omega)
      refine tr_282_58 G  ⟨fun c9 => absurd (hB ▸ c9) (nI_nlt (by omega) (by omega)), fun c9 => ?_⟩
      obtain ⟨q0, hob⟩ := hob
      refine ⟨q0, ?_⟩
      intro v2 ev2
      subst ev2
      exact hih
  have L0 := L (n - z0) z0 (Nat.le_refl _) (by omega)
  simp only [fz_0] at L0
  exact L0
