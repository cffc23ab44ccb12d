/-! 118: StoneBacks$Valley.meetingPlace()I -/
def H_118_6 (d : Nat) (h : mxH) (a : Nat) (i1 : Int32) (i2 : Int32) (i3 : Int32) (Q : mxO → mxH → Prop) : Prop := ∀ (w4 : Option Value), mx_wp d 118 6 [some (.ref a), some (.int i1), some (.int i2), some (.int i3), w4] [] h Q
set_option maxRecDepth 8000 in
theorem tr_118_0 {d : Nat} {h : mxH} {Q : mxO → mxH → Prop} {a : Nat} (G : mxG h) (hVa : (mxT a).1 = 9) (H : H_118_6 (d + 3) h a (-1) 0 0 Q) : mx_wp (d + 3) 118 0 (mx_fr 118 [.ref a]) [] h Q := by
  show mx_wp (d + 3) 118 0 [some (.ref a), none, none, none, none] [] h Q
  refine wp_steps (i' := 6) (ls' := [some (.ref a), some (.int (-1)), some (.int 0), some (.int 0), none]) (st' := []) (h' := h) (P := True) 6 rfl rfl trivial ?_
  exact H _
set_option maxRecDepth 8000 in
theorem tr_118_6 {d : Nat} {h : mxH} {Q : mxO → mxH → Prop} {a : Nat} {i1 : Int32} {i2 : Int32} {i3 : Int32} (G : mxG h) (hVa : (mxT a).1 = 9) (H : ((i3 < 12 → ((0 < (mx_i h (a + 1) 0) → (cB (mx_i h (a + 1) 0) 6 ∧ cB (mx_i h (a + 7) 0) 10 ∧ plOk h a ∧ isI i3 12 ∧ (∀ (v7 : Int32), v7 = ((if (V_119 h a i3) = (-1) then i1 else (if i1 = (-1) then i3 else (if (V_119 h a i3) < i2 then i3 else i1))) : Int32) → (∀ (v8 : Int32), v8 = ((if (V_119 h a i3) = (-1) then i2 else (if i1 = (-1) then (V_119 h a i3) else (if (V_119 h a i3) < i2 then (V_119 h a i3) else i2))) : Int32) → H_118_6 (d + 3) h a v7 v8 (i3 + 1) Q)))) ∧ (¬ 0 < (mx_i h (a + 1) 0) → Q (.inl (some (.int i1))) h))) ∧ (¬ i3 < 12 → Q (.inl (some (.int i1))) h))) : H_118_6 (d + 3) h a i1 i2 i3 Q := by
  intro w4
  show mx_wp (d + 3) 118 6 [some (.ref a), some (.int i1), some (.int i2), some (.int i3), w4] [] h Q
  refine wp_steps (i' := 8) (ls' := [some (.ref a), some (.int i1), some (.int i2), some (.int i3), w4]) (st' := [.int 12, .int i3]) (h' := h) (P := True) 2 rfl rfl trivial ?_
  refine wp_br (P := True) (c := 12 ≤ i3) (t := 32) (st' := []) rfl rfl trivial (fun c1 => ?_) (fun c1 => ?_)
  · have c1 := Int32.not_lt.mpr c1
    have H := H.2 c1
    refine wp_steps (i' := 33) (ls' := [some (.ref a), some (.int i1), some (.int i2), some (.int i3), w4]) (st' := [.int i1]) (h' := h) (P := True) 1 rfl rfl trivial ?_
    exact wp_end (o := .inl (some (.int i1))) (h' := h) (P := True) rfl rfl trivial H
  · have c1 := Int32.not_le.mp c1
    have H := H.1 c1
    refine wp_steps (i' := 12) (ls' := [some (.ref a), some (.int i1), some (.int i2), some (.int i3), w4]) (st' := [.int (mx_i h (a + 1) 0)]) (h' := h) (P := ((mxT a).1 = 9 ∧ mxG h) ∧ ((mxT (a + 1)).1 = 5 ∧ mxG h) ∧ True) 3 rfl rfl ⟨⟨(congrArg Prod.fst (sV_0 hVa)), G⟩, ⟨(congrArg Prod.fst (sV_1 hVa)), G⟩, trivial⟩ ?_
    refine wp_br (P := True) (c := (mx_i h (a + 1) 0) ≤ 0) (t := 32) (st' := []) rfl rfl trivial (fun c2 => ?_) (fun c2 => ?_)
    · have c2 := Int32.not_lt.mpr c2
      have H := H.2 c2
      refine wp_steps (i' := 33) (ls' := [some (.ref a), some (.int i1), some (.int i2), some (.int i3), w4]) (st' := [.int i1]) (h' := h) (P := True) 1 rfl rfl trivial ?_
      exact wp_end (o := .inl (some (.int i1))) (h' := h) (P := True) rfl rfl trivial H
    · have c2 := Int32.not_le.mp c2
      have H := H.1 c2
      refine wp_steps (i' := 15) (ls' := [some (.ref a), some (.int i1), some (.int i2), some (.int i3), w4]) (st' := [.int i3, .ref a]) (h' := h) (P := True) 2 rfl rfl trivial ?_
      obtain ⟨o3, o4, o5, o6, H⟩ := H
      refine wp_call (b := false) (y' := 119) (as := [.ref a, .int i3]) (rest := []) (P := ((mxT a).1 = mxRc 119 ∧ mxG h)) rfl (by with_unfolding_all rfl) ⟨(congrArg Prod.fst (sV_0 hVa)), G⟩ (Nat.le_of_ble_eq_true rfl) (sp_119 G hVa o3 o4 o5 o6 ?_)
      show mx_wp (d + 3) 118 16 [some (.ref a), some (.int i1), some (.int i2), some (.int i3), w4] [.int (V_119 h a i3)] h Q
      refine wp_steps (i' := 19) (ls' := [some (.ref a), some (.int i1), some (.int i2), some (.int i3), some (.int (V_119 h a i3))]) (st' := [.int (-1), .int (V_119 h a i3)]) (h' := h) (P := True) 3 rfl rfl trivial ?_
      have J : ∀ (v7 : Int32) (v8 : Int32) (ev7 : v7 = ((if (V_119 h a i3) = (-1) then i1 else (if i1 = (-1) then i3 else (if (V_119 h a i3) < i2 then i3 else i1))) : Int32)) (ev8 : v8 = ((if (V_119 h a i3) = (-1) then i2 else (if i1 = (-1) then (V_119 h a i3) else (if (V_119 h a i3) < i2 then (V_119 h a i3) else i2))) : Int32)), mx_wp (d + 3) 118 30 [some (.ref a), some (.int v7), some (.int v8), some (.int i3), some (.int (V_119 h a i3))] [] h Q := by
        intro v7 v8 ev7 ev8
        have H := H v7 ev7 v8 ev8
        refine wp_steps (i' := 31) (ls' := [some (.ref a), some (.int v7), some (.int v8), some (.int (i3 + 1)), some (.int (V_119 h a i3))]) (st' := []) (h' := h) (P := True) 1 rfl rfl trivial ?_
        refine wp_J (j := 6) (st' := []) rfl rfl ?_
        exact H _
      refine wp_br (P := True) (c := (V_119 h a i3) = (-1)) (t := 30) (st' := []) rfl rfl trivial (fun c9 => ?_) (fun c9 => ?_)
      · skip
        exact J _ _ (by rw [if_pos c9]) (by rw [if_pos c9])
      · skip
        refine wp_steps (i' := 22) (ls' := [some (.ref a), some (.int i1), some (.int i2), some (.int i3), some (.int (V_119 h a i3))]) (st' := [.int (-1), .int i1]) (h' := h) (P := True) 2 rfl rfl trivial ?_
        refine wp_br (P := True) (c := i1 = (-1)) (t := 26) (st' := []) rfl rfl trivial (fun c10 => ?_) (fun c10 => ?_)
        · skip
          refine wp_steps (i' := 30) (ls' := [some (.ref a), some (.int i3), some (.int (V_119 h a i3)), some (.int i3), some (.int (V_119 h a i3))]) (st' := []) (h' := h) (P := True) 4 rfl rfl trivial ?_
          exact J _ _ (by rw [if_neg c9, if_pos c10]) (by rw [if_neg c9, if_pos c10])
        · skip
          refine wp_steps (i' := 25) (ls' := [some (.ref a), some (.int i1), some (.int i2), some (.int i3), some (.int (V_119 h a i3))]) (st' := [.int i2, .int (V_119 h a i3)]) (h' := h) (P := True) 2 rfl rfl trivial ?_
          refine wp_br (P := True) (c := i2 ≤ (V_119 h a i3)) (t := 30) (st' := []) rfl rfl trivial (fun c11 => ?_) (fun c11 => ?_)
          · have c11 := Int32.not_lt.mpr c11
            exact J _ _ (by rw [if_neg c9, if_neg c10, if_neg c11]) (by rw [if_neg c9, if_neg c10, if_neg c11])
          · have c11 := Int32.not_le.mp c11
            refine wp_steps (i' := 30) (ls' := [some (.ref a), some (.int i3), some (.int (V_119 h a i3)), some (.int i3), some (.int (V_119 h a i3))]) (st' := []) (h' := h) (P := True) 4 rfl rfl trivial ?_
            exact J _ _ (by rw [if_neg c9, if_neg c10, if_pos c11]) (by rw [if_neg c9, if_neg c10, if_pos c11])
/-! 182: StoneBacks.remember()V -/
set_option maxRecDepth 8000 in
theorem tr_182_0 {d : Nat} {h : mxH} {Q : mxO → mxH → Prop} {vn vd vr vq : Nat} (G : mxG h) (S : mxS h vn vd vr vq) (H : (((mx_i h 100 13) = 12 → (∀ h15, h15 = mx_wi h 100 12 (((mx_i h 100 12) + 1) - ((mx_i h 100 12) + 1) / 12 * 12) → (∀ h19, h19 = mx_wi h15 100 13 ((mx_i h15 100 13) - 1) → (vp_in (((mx_i h19 100 12) + (mx_i h19 100 13)) - ((mx_i h19 100 12) + (mx_i h19 100 13)) / 12 * 12) 12 ∧ (∀ (vk24 : Nat), vk24 = (189 + 16 * (((mx_i h19 100 12) + (mx_i h19 100 13)) - ((mx_i h19 100 12) + (mx_i h19 100 13)) / 12 * 12).toNatClampNeg : Nat) → ((∀ (h28 : mxH), cpR 0 16 vk24 vn h19 h28 → (∀ h32, h32 = mx_wi h28 100 13 ((mx_i h28 100 13) + 1) → Q (.inl none) h32)))))))) ∧ (¬ (mx_i h 100 13) = 12 → (vp_in (((mx_i h 100 12) + (mx_i h 100 13)) - ((mx_i h 100 12) + (mx_i h 100 13)) / 12 * 12) 12 ∧ (∀ (vk3 : Nat), vk3 = (189 + 16 * (((mx_i h 100 12) + (mx_i h 100 13)) - ((mx_i h 100 12) + (mx_i h 100 13)) / 12 * 12).toNatClampNeg : Nat) → ((∀ (h7 : mxH), cpR 0 16 vk3 vn h h7 → (∀ h11, h11 = mx_wi h7 100 13 ((mx_i h7 100 13) + 1) → Q (.inl none) h11)))))))) : mx_wp (d + 2) 182 0 (mx_fr 182 [.ref 100]) [] h Q := by
  show mx_wp (d + 2) 182 0 [some (.ref 100)] [] h Q
  refine wp_steps (i' := 3) (ls' := [some (.ref 100)]) (st' := [.int 12, .int (mx_i h 100 13)]) (h' := h) (P := ((mxT 100).1 = 10 ∧ mxG h) ∧ True) 3 rfl rfl ⟨⟨(congrArg Prod.fst sT_100), G⟩, trivial⟩ ?_
  refine wp_br (P := True) (c := ¬ (mx_i h 100 13) = 12) (t := 18) (st' := []) rfl rfl trivial (fun c1 => ?_) (fun c1 => ?_)
  · skip
    have H := H.2 c1
    obtain ⟨o2, H⟩ := H
    refine wp_steps (i' := 28) (ls' := [some (.ref 100)]) (st' := [.ref (mx_r h 188 (((mx_i h 100 12) + (mx_i h 100 13)) - ((mx_i h 100 12) + (mx_i h 100 13)) / 12 * 12).toNatClampNeg)]) (h' := h) (P := ((mxT 100).1 = 10 ∧ mxG h) ∧ ((mxT 100).1 = 10 ∧ mxG h) ∧ ((mxT 100).1 = 10 ∧ mxG h) ∧ (¬ (12 : Int32) = 0) ∧ ((((mxT 188).1 = 53 ∨ (mxT 188).1 = 54) ∧ mxG h) ∧ vp_in (((mx_i h 100 12) + (mx_i h 100 13)) - ((mx_i h 100 12) + (mx_i h 100 13)) / 12 * 12) (mxT 188).2) ∧ True) 10 rfl rfl ⟨⟨(congrArg Prod.fst sT_100), G⟩, ⟨(congrArg Prod.fst sT_100), G⟩, ⟨(congrArg Prod.fst sT_100), G⟩, (by decide), (cW sT_188 (Or.inr rfl) G o2), trivial⟩ ?_
    obtain ⟨vk3, e4⟩ : ∃ z9, z9 = 189 + 16 * (((mx_i h 100 12) + (mx_i h 100 13)) - ((mx_i h 100 12) + (mx_i h 100 13)) / 12 * 12).toNatClampNeg := ⟨_, rfl⟩
    rw [mxS_k S (vp_lt o2), ← e4]
    have H := H vk3 e4
    have hk5 : (mxT vk3).1 = 9 := e4 ▸ sK (vp_lt o2)
    refine wp_steps (i' := 30) (ls' := [some (.ref 100)]) (st' := [.ref (mx_r h 100 4), .ref vk3]) (h' := h) (P := ((mxT 100).1 = 10 ∧ mxG h) ∧ True) 2 rfl rfl ⟨⟨(congrArg Prod.fst sT_100), G⟩, trivial⟩ ?_
    rw [mxS_4 S]
    refine wp_call (b := false) (y' := 103) (as := [.ref vk3, .ref vn]) (rest := []) (P := ((mxT vk3).1 = mxRc 103 ∧ mxG h)) rfl (by with_unfolding_all rfl) ⟨(congrArg Prod.fst (sV_0 hk5)), G⟩ (Nat.le_of_ble_eq_true rfl) (sp_103 G hk5 (mxS_vn S) ?_)
    intro h7 p8
    show mx_wp (d + 2) 182 31 [some (.ref 100)] [] h7 Q
    have H := H h7 p8
    have G9 : mxG h7 := mxU_G p8.1 G
    have S10 := mxS_of (mxU_r p8.1) S
    refine wp_steps (i' := 37) (ls' := [some (.ref 100)]) (st' := []) (h' := mx_wi h7 100 13 ((mx_i h7 100 13) + 1)) (P := ((mxT 100).1 = 10 ∧ mxG h7) ∧ ((mxT 100).1 = 10 ∧ mxG h7) ∧ True) 6 rfl rfl ⟨⟨(congrArg Prod.fst sT_100), G9⟩, ⟨(congrArg Prod.fst sT_100), G9⟩, trivial⟩ ?_
    obtain ⟨h11, e12⟩ : ∃ z9, z9 = mx_wi h7 100 13 ((mx_i h7 100 13) + 1) := ⟨_, rfl⟩
    rw [← e12]
    have H := H h11 e12
    have G13 : mxG h11 := e12 ▸ mxG_wi G9
    have S14 := e12 ▸ mxS_wi S10
    exact wp_end (o := .inl none) (h' := h11) (P := True) rfl rfl trivial H
  · have c1 := Decidable.of_not_not c1
    have H := H.1 c1
    refine wp_steps (i' := 12) (ls' := [some (.ref 100)]) (st' := []) (h' := mx_wi h 100 12 (((mx_i h 100 12) + 1) - ((mx_i h 100 12) + 1) / 12 * 12)) (P := ((mxT 100).1 = 10 ∧ mxG h) ∧ (¬ (12 : Int32) = 0) ∧ ((mxT 100).1 = 10 ∧ mxG h) ∧ True) 8 rfl rfl ⟨⟨(congrArg Prod.fst sT_100), G⟩, (by decide), ⟨(congrArg Prod.fst sT_100), G⟩, trivial⟩ ?_
    obtain ⟨h15, e16⟩ : ∃ z9, z9 = mx_wi h 100 12 (((mx_i h 100 12) + 1) - ((mx_i h 100 12) + 1) / 12 * 12) := ⟨_, rfl⟩
    rw [← e16]
    have H := H h15 e16
    have G17 : mxG h15 := e16 ▸ mxG_wi G
    have S18 := e16 ▸ mxS_wi S
    refine wp_steps (i' := 18) (ls' := [some (.ref 100)]) (st' := []) (h' := mx_wi h15 100 13 ((mx_i h15 100 13) - 1)) (P := ((mxT 100).1 = 10 ∧ mxG h15) ∧ ((mxT 100).1 = 10 ∧ mxG h15) ∧ True) 6 rfl rfl ⟨⟨(congrArg Prod.fst sT_100), G17⟩, ⟨(congrArg Prod.fst sT_100), G17⟩, trivial⟩ ?_
    obtain ⟨h19, e20⟩ : ∃ z9, z9 = mx_wi h15 100 13 ((mx_i h15 100 13) - 1) := ⟨_, rfl⟩
    rw [← e20]
    have H := H h19 e20
    have G21 : mxG h19 := e20 ▸ mxG_wi G17
    have S22 := e20 ▸ mxS_wi S18
    obtain ⟨o23, H⟩ := H
    refine wp_steps (i' := 28) (ls' := [some (.ref 100)]) (st' := [.ref (mx_r h19 188 (((mx_i h19 100 12) + (mx_i h19 100 13)) - ((mx_i h19 100 12) + (mx_i h19 100 13)) / 12 * 12).toNatClampNeg)]) (h' := h19) (P := ((mxT 100).1 = 10 ∧ mxG h19) ∧ ((mxT 100).1 = 10 ∧ mxG h19) ∧ ((mxT 100).1 = 10 ∧ mxG h19) ∧ (¬ (12 : Int32) = 0) ∧ ((((mxT 188).1 = 53 ∨ (mxT 188).1 = 54) ∧ mxG h19) ∧ vp_in (((mx_i h19 100 12) + (mx_i h19 100 13)) - ((mx_i h19 100 12) + (mx_i h19 100 13)) / 12 * 12) (mxT 188).2) ∧ True) 10 rfl rfl ⟨⟨(congrArg Prod.fst sT_100), G21⟩, ⟨(congrArg Prod.fst sT_100), G21⟩, ⟨(congrArg Prod.fst sT_100), G21⟩, (by decide), (cW sT_188 (Or.inr rfl) G21 o23), trivial⟩ ?_
    obtain ⟨vk24, e25⟩ : ∃ z9, z9 = 189 + 16 * (((mx_i h19 100 12) + (mx_i h19 100 13)) - ((mx_i h19 100 12) + (mx_i h19 100 13)) / 12 * 12).toNatClampNeg := ⟨_, rfl⟩
    rw [mxS_k S22 (vp_lt o23), ← e25]
    have H := H vk24 e25
    have hk26 : (mxT vk24).1 = 9 := e25 ▸ sK (vp_lt o23)
    refine wp_steps (i' := 30) (ls' := [some (.ref 100)]) (st' := [.ref (mx_r h19 100 4), .ref vk24]) (h' := h19) (P := ((mxT 100).1 = 10 ∧ mxG h19) ∧ True) 2 rfl rfl ⟨⟨(congrArg Prod.fst sT_100), G21⟩, trivial⟩ ?_
    rw [mxS_4 S22]
    refine wp_call (b := false) (y' := 103) (as := [.ref vk24, .ref vn]) (rest := []) (P := ((mxT vk24).1 = mxRc 103 ∧ mxG h19)) rfl (by with_unfolding_all rfl) ⟨(congrArg Prod.fst (sV_0 hk26)), G21⟩ (Nat.le_of_ble_eq_true rfl) (sp_103 G21 hk26 (mxS_vn S) ?_)
    intro h28 p29
    show mx_wp (d + 2) 182 31 [some (.ref 100)] [] h28 Q
    have H := H h28 p29
    have G30 : mxG h28 := mxU_G p29.1 G21
    have S31 := mxS_of (mxU_r p29.1) S22
    refine wp_steps (i' := 37) (ls' := [some (.ref 100)]) (st' := []) (h' := mx_wi h28 100 13 ((mx_i h28 100 13) + 1)) (P := ((mxT 100).1 = 10 ∧ mxG h28) ∧ ((mxT 100).1 = 10 ∧ mxG h28) ∧ True) 6 rfl rfl ⟨⟨(congrArg Prod.fst sT_100), G30⟩, ⟨(congrArg Prod.fst sT_100), G30⟩, trivial⟩ ?_
    obtain ⟨h32, e33⟩ : ∃ z9, z9 = mx_wi h28 100 13 ((mx_i h28 100 13) + 1) := ⟨_, rfl⟩
    rw [← e33]
    have H := H h32 e33
    have G34 : mxG h32 := e33 ▸ mxG_wi G30
    have S35 := e33 ▸ mxS_wi S31
    exact wp_end (o := .inl none) (h' := h32) (P := True) rfl rfl trivial H
/-! 154: StoneBacks.soonest(I)I -/
set_option maxRecDepth 8000 in
theorem tr_154_0 {d : Nat} {h : mxH} {Q : mxO → mxH → Prop} {i1 : Int32} {vn vd vr vq : Nat} (G : mxG h) (S : mxS h vn vd vr vq) (H : (((isI i1 12) → (cB (mx_i h (vn + 1) 0) 6 ∧ cB (mx_i h (vn + 7) 0) 10 ∧ plOk h vn ∧ isI i1 12 ∧ Q (.inl (some (.int (V_117 h vn i1)))) h)) ∧ (¬ (isI i1 12) → Q (.inr 2) (mx_ex h)))) : mx_wp (d + 3) 154 0 (mx_fr 154 [.ref 100, .int i1]) [] h Q := by
  show mx_wp (d + 3) 154 0 [some (.ref 100), some (.int i1)] [] h Q
  refine wp_steps (i' := 2) (ls' := [some (.ref 100), some (.int i1)]) (st' := [.int i1, .ref 100]) (h' := h) (P := True) 2 rfl rfl trivial ?_
  refine wp_call (b := false) (y' := 186) (as := [.ref 100, .int i1]) (rest := []) (P := ((mxT 100).1 = mxRc 186 ∧ mxG h)) rfl (by with_unfolding_all rfl) ⟨(congrArg Prod.fst sT_100), G⟩ (Nat.le_of_ble_eq_true rfl) (sp_186 G S (fun c1 => ?_) (fun c1 => H.2 c1))
  show mx_wp (d + 3) 154 3 [some (.ref 100), some (.int i1)] [] h Q
  have H := H.1 c1
  refine wp_steps (i' := 5) (ls' := [some (.ref 100), some (.int i1)]) (st' := [.ref (mx_r h 100 4)]) (h' := h) (P := ((mxT 100).1 = 10 ∧ mxG h) ∧ True) 2 rfl rfl ⟨⟨(congrArg Prod.fst sT_100), G⟩, trivial⟩ ?_
  rw [mxS_4 S]
  refine wp_steps (i' := 6) (ls' := [some (.ref 100), some (.int i1)]) (st' := [.int i1, .ref vn]) (h' := h) (P := True) 1 rfl rfl trivial ?_
  obtain ⟨o2, o3, o4, o5, H⟩ := H
  refine wp_call (b := false) (y' := 117) (as := [.ref vn, .int i1]) (rest := []) (P := ((mxT vn).1 = mxRc 117 ∧ mxG h)) rfl (by with_unfolding_all rfl) ⟨(congrArg Prod.fst (sV_0 (mxS_vn S))), G⟩ (Nat.le_of_ble_eq_true rfl) (sp_117 G (mxS_vn S) o2 o3 o4 o5 ?_)
  show mx_wp (d + 3) 154 7 [some (.ref 100), some (.int i1)] [.int (V_117 h vn i1)] h Q
  exact wp_end (o := .inl (some (.int (V_117 h vn i1)))) (h' := h) (P := True) rfl rfl trivial H
/-! 179: StoneBacks.undo()Z -/
set_option maxRecDepth 8000 in
theorem tr_179_0 {d : Nat} {h : mxH} {Q : mxO → mxH → Prop} {vn vd vr vq : Nat} (G : mxG h) (S : mxS h vn vd vr vq) (H : ((0 < (mx_i h 100 13) → (∀ h2, h2 = mx_wi h 100 13 ((mx_i h 100 13) - 1) → (vp_in (((mx_i h2 100 12) + (mx_i h2 100 13)) - ((mx_i h2 100 12) + (mx_i h2 100 13)) / 12 * 12) 12 ∧ (∀ (vk7 : Nat), vk7 = (189 + 16 * (((mx_i h2 100 12) + (mx_i h2 100 13)) - ((mx_i h2 100 12) + (mx_i h2 100 13)) / 12 * 12).toNatClampNeg : Nat) → ((∀ (h11 : mxH), cpR 0 16 vn vk7 h2 h11 → Q (.inl (some (.int 1))) h11)))))) ∧ (¬ 0 < (mx_i h 100 13) → Q (.inl (some (.int 0))) h))) : mx_wp (d + 2) 179 0 (mx_fr 179 [.ref 100]) [] h Q := by
  show mx_wp (d + 2) 179 0 [some (.ref 100)] [] h Q
  refine wp_steps (i' := 2) (ls' := [some (.ref 100)]) (st' := [.int (mx_i h 100 13)]) (h' := h) (P := ((mxT 100).1 = 10 ∧ mxG h) ∧ True) 2 rfl rfl ⟨⟨(congrArg Prod.fst sT_100), G⟩, trivial⟩ ?_
  refine wp_br (P := True) (c := 0 < (mx_i h 100 13)) (t := 5) (st' := []) rfl rfl trivial (fun c1 => ?_) (fun c1 => ?_)
  · skip
    have H := H.1 c1
    refine wp_steps (i' := 11) (ls' := [some (.ref 100)]) (st' := []) (h' := mx_wi h 100 13 ((mx_i h 100 13) - 1)) (P := ((mxT 100).1 = 10 ∧ mxG h) ∧ ((mxT 100).1 = 10 ∧ mxG h) ∧ True) 6 rfl rfl ⟨⟨(congrArg Prod.fst sT_100), G⟩, ⟨(congrArg Prod.fst sT_100), G⟩, trivial⟩ ?_
    obtain ⟨h2, e3⟩ : ∃ z9, z9 = mx_wi h 100 13 ((mx_i h 100 13) - 1) := ⟨_, rfl⟩
    rw [← e3]
    have H := H h2 e3
    have G4 : mxG h2 := e3 ▸ mxG_wi G
    have S5 := e3 ▸ mxS_wi S
    refine wp_steps (i' := 13) (ls' := [some (.ref 100)]) (st' := [.ref (mx_r h2 100 4)]) (h' := h2) (P := ((mxT 100).1 = 10 ∧ mxG h2) ∧ True) 2 rfl rfl ⟨⟨(congrArg Prod.fst sT_100), G4⟩, trivial⟩ ?_
    rw [mxS_4 S5]
    obtain ⟨o6, H⟩ := H
    refine wp_steps (i' := 23) (ls' := [some (.ref 100)]) (st' := [.ref (mx_r h2 188 (((mx_i h2 100 12) + (mx_i h2 100 13)) - ((mx_i h2 100 12) + (mx_i h2 100 13)) / 12 * 12).toNatClampNeg), .ref vn]) (h' := h2) (P := ((mxT 100).1 = 10 ∧ mxG h2) ∧ ((mxT 100).1 = 10 ∧ mxG h2) ∧ ((mxT 100).1 = 10 ∧ mxG h2) ∧ (¬ (12 : Int32) = 0) ∧ ((((mxT 188).1 = 53 ∨ (mxT 188).1 = 54) ∧ mxG h2) ∧ vp_in (((mx_i h2 100 12) + (mx_i h2 100 13)) - ((mx_i h2 100 12) + (mx_i h2 100 13)) / 12 * 12) (mxT 188).2) ∧ True) 10 rfl rfl ⟨⟨(congrArg Prod.fst sT_100), G4⟩, ⟨(congrArg Prod.fst sT_100), G4⟩, ⟨(congrArg Prod.fst sT_100), G4⟩, (by decide), (cW sT_188 (Or.inr rfl) G4 o6), trivial⟩ ?_
    obtain ⟨vk7, e8⟩ : ∃ z9, z9 = 189 + 16 * (((mx_i h2 100 12) + (mx_i h2 100 13)) - ((mx_i h2 100 12) + (mx_i h2 100 13)) / 12 * 12).toNatClampNeg := ⟨_, rfl⟩
    rw [mxS_k S5 (vp_lt o6), ← e8]
    have H := H vk7 e8
    have hk9 : (mxT vk7).1 = 9 := e8 ▸ sK (vp_lt o6)
    refine wp_call (b := false) (y' := 103) (as := [.ref vn, .ref vk7]) (rest := []) (P := ((mxT vn).1 = mxRc 103 ∧ mxG h2)) rfl (by with_unfolding_all rfl) ⟨(congrArg Prod.fst (sV_0 (mxS_vn S))), G4⟩ (Nat.le_of_ble_eq_true rfl) (sp_103 G4 (mxS_vn S) hk9 ?_)
    intro h11 p12
    show mx_wp (d + 2) 179 24 [some (.ref 100)] [] h11 Q
    have H := H h11 p12
    have G13 : mxG h11 := mxU_G p12.1 G4
    have S14 := mxS_of (mxU_r p12.1) S5
    refine wp_steps (i' := 25) (ls' := [some (.ref 100)]) (st' := [.int 1]) (h' := h11) (P := True) 1 rfl rfl trivial ?_
    exact wp_end (o := .inl (some (.int 1))) (h' := h11) (P := ((1 : Int32) = 0 ∨ (1 : Int32) = 1)) rfl rfl (Or.inr rfl) H
  · skip
    have H := H.2 c1
    refine wp_steps (i' := 4) (ls' := [some (.ref 100)]) (st' := [.int 0]) (h' := h) (P := True) 1 rfl rfl trivial ?_
    exact wp_end (o := .inl (some (.int 0))) (h' := h) (P := ((0 : Int32) = 0 ∨ (0 : Int32) = 1)) rfl rfl (Or.inl rfl) H
/-! 180: StoneBacks.image()V -/
set_option maxRecDepth 8000 in
theorem tr_180_0 {d : Nat} {h : mxH} {Q : mxO → mxH → Prop} {vn vd vr vq : Nat} (G : mxG h) (S : mxS h vn vd vr vq) (H : ((∀ (h2 : mxH), cpR 0 16 165 vn h h2 → (((mx_i h2 vr 0) = 0 ∨ (mx_i h2 vr 0) = 1) ∧ (∀ (h8 : mxH), cpL 181 vr h2 h8 → (∀ h12, h12 = mx_wi h8 100 10 1 → Q (.inl none) h12)))))) : mx_wp (d + 2) 180 0 (mx_fr 180 [.ref 100]) [] h Q := by
  show mx_wp (d + 2) 180 0 [some (.ref 100)] [] h Q
  refine wp_steps (i' := 4) (ls' := [some (.ref 100)]) (st' := [.ref (mx_r h 100 4), .ref 165]) (h' := h) (P := ((mxT 100).1 = 10 ∧ mxG h) ∧ ((mxT 100).1 = 10 ∧ mxG h) ∧ True) 4 rfl rfl ⟨⟨(congrArg Prod.fst sT_100), G⟩, ⟨(congrArg Prod.fst sT_100), G⟩, trivial⟩ ?_
  rw [mxS_4 S]
  refine wp_call (b := false) (y' := 103) (as := [.ref 165, .ref vn]) (rest := []) (P := ((mxT 165).1 = mxRc 103 ∧ mxG h)) rfl (by with_unfolding_all rfl) ⟨(congrArg Prod.fst sT_165), G⟩ (Nat.le_of_ble_eq_true rfl) (sp_103 G (by decide +kernel) (mxS_vn S) ?_)
  intro h2 p3
  show mx_wp (d + 2) 180 5 [some (.ref 100)] [] h2 Q
  have H := H h2 p3
  have G4 : mxG h2 := mxU_G p3.1 G
  have S5 := mxS_of (mxU_r p3.1) S
  refine wp_steps (i' := 9) (ls' := [some (.ref 100)]) (st' := [.ref (mx_r h2 100 6), .ref 181]) (h' := h2) (P := ((mxT 100).1 = 10 ∧ mxG h2) ∧ ((mxT 100).1 = 10 ∧ mxG h2) ∧ True) 4 rfl rfl ⟨⟨(congrArg Prod.fst sT_100), G4⟩, ⟨(congrArg Prod.fst sT_100), G4⟩, trivial⟩ ?_
  rw [mxS_6 S5]
  obtain ⟨o6, H⟩ := H
  refine wp_call (b := false) (y' := 20) (as := [.ref 181, .ref vr]) (rest := []) (P := ((mxT 181).1 = mxRc 20 ∧ mxG h2)) rfl (by with_unfolding_all rfl) ⟨(congrArg Prod.fst sT_181), G4⟩ (Nat.le_of_ble_eq_true rfl) (sp_20 G4 (by decide +kernel) (mxS_vr S) o6 ?_)
  intro h8 p9
  show mx_wp (d + 2) 180 10 [some (.ref 100)] [] h8 Q
  have H := H h8 p9
  have G10 : mxG h8 := mxU_G p9.1 G4
  have S11 := mxS_of (mxU_r p9.1) S5
  refine wp_steps (i' := 13) (ls' := [some (.ref 100)]) (st' := []) (h' := mx_wi h8 100 10 1) (P := (((mxT 100).1 = 10 ∧ mxG h8) ∧ ((1 : Int32) = 0 ∨ (1 : Int32) = 1)) ∧ True) 3 rfl rfl ⟨⟨⟨(congrArg Prod.fst sT_100), G10⟩, Or.inr rfl⟩, trivial⟩ ?_
  obtain ⟨h12, e13⟩ : ∃ z9, z9 = mx_wi h8 100 10 1 := ⟨_, rfl⟩
  rw [← e13]
  have H := H h12 e13
  have G14 : mxG h12 := e13 ▸ mxG_wi G10
  have S15 := e13 ▸ mxS_wi S11
  exact wp_end (o := .inl none) (h' := h12) (P := True) rfl rfl trivial H
/-! 253: StoneBacksModel.lend(III)I -/
set_option maxRecDepth 8000 in
theorem tr_253_0 {d : Nat} {h : mxH} {Q : mxO → mxH → Prop} {i1 : Int32} {i2 : Int32} {i3 : Int32} (G : mxG h)  (H : (((V_191 (mx_i h 382) i1 (0 : Int32) ((mx_i h 382 3) - 1)) = 0 ∨ (V_191 (mx_i h 382) i1 (0 : Int32) ((mx_i h 382 3) - 1)) = 1) ∧ ((((V_200 (mx_i h 382) i1) = 0 → True) ∧ (¬ (V_200 (mx_i h 382) i1) = 0 → (((V_191 (mx_i h 382) i2 (0 : Int32) ((mx_i h 382 3) - 1)) = 0 ∨ (V_191 (mx_i h 382) i2 (0 : Int32) ((mx_i h 382 3) - 1)) = 1) ∧ (((V_200 (mx_i h 382) i2) = 0 → True) ∧ (¬ (V_200 (mx_i h 382) i2) = 0 → ((i1 = i2 → True) ∧ (¬ i1 = i2 → (((V_191 (mx_i h 382) i3 (1 : Int32) (40 : Int32)) = 0 → True) ∧ (¬ (V_191 (mx_i h 382) i3 (1 : Int32) (40 : Int32)) = 0 → (((mx_i h 382 4) = 10 → True) ∧ (¬ (mx_i h 382 4) = 10 → (vp_in ((33 + (6 * i1)) + (0 : Int32)) 769 ∧ True)))))))))))) ∧ (∀ (v2 : Int32), v2 = ((if (V_200 (mx_i h 382) i1) = 0 then 1 else (if (V_200 (mx_i h 382) i2) = 0 then 1 else (if i1 = i2 then 2 else (if (V_191 (mx_i h 382) i3 (1 : Int32) (40 : Int32)) = 0 then 2 else (if (mx_i h 382 4) = 10 then 3 else (if (V_196 (mx_i h 382) i1 (0 : Int32)) < i3 then 3 else 0)))))) : Int32) → (∀ h3, h3 = mx_wi h 381 0 v2 → ((0 < (mx_i h3 381 0) → Q (.inl (some (.int 0))) h3) ∧ (¬ 0 < (mx_i h3 381 0) → (cB (mx_i h3 381 6) 12 ∧ (∀ (h9 : mxH), rmM h3 h9 → (vp_in ((33 + (6 * i1)) + (0 : Int32)) 769 ∧ vp_in ((33 + (6 * i2)) + (0 : Int32)) 769 ∧ (∀ h14, h14 = W_252 h9 i1 i2 i3 → (vp_in ((69 + (6 * (mx_i h14 382 4))) + (0 : Int32)) 769 ∧ vp_in ((69 + (6 * (mx_i h14 382 4))) + (1 : Int32)) 769 ∧ vp_in ((69 + (6 * (mx_i h14 382 4))) + (2 : Int32)) 769 ∧ vp_in ((69 + (6 * (mx_i h14 382 4))) + (3 : Int32)) 769 ∧ vp_in ((69 + (6 * (mx_i h14 382 4))) + (4 : Int32)) 769 ∧ vp_in ((69 + (6 * (mx_i h14 382 4))) + (5 : Int32)) 769 ∧ (∀ h24, h24 = W_220 h14 i2 i1 i3 i2 → (∀ h28, h28 = mx_wrow h24 382 (mLog (mx_i h24 382) ((mx_i h24 382 4) - 1) (0 : Int32) i3) → Q (.inl (some (.int ((mx_i h28 382 4) - 1)))) h28)))))))))))))) : mx_wp (d + 2) 253 0 (mx_fr 253 [.ref 381, .int i1, .int i2, .int i3]) [] h Q := by
  show mx_wp (d + 2) 253 0 [some (.ref 381), some (.int i1), some (.int i2), some (.int i3)] [] h Q
  refine wp_steps (i' := 3) (ls' := [some (.ref 381), some (.int i1), some (.int i2), some (.int i3)]) (st' := [.int i1, .ref 381, .ref 381]) (h' := h) (P := True) 3 rfl rfl trivial ?_
  obtain ⟨o1, H⟩ := H
  refine wp_call (b := false) (y' := 200) (as := [.ref 381, .int i1]) (rest := [.ref 381]) (P := ((mxT 381).1 = mxRc 200 ∧ mxG h)) rfl (by with_unfolding_all rfl) ⟨(congrArg Prod.fst sT_381), G⟩ (Nat.le_of_ble_eq_true rfl) (sp_200 G o1 ?_)
  show mx_wp (d + 2) 253 4 [some (.ref 381), some (.int i1), some (.int i2), some (.int i3)] [.int (V_200 (mx_i h 382) i1), .ref 381] h Q
  have J : ∀ (v2 : Int32) (ev2 : v2 = ((if (V_200 (mx_i h 382) i1) = 0 then 1 else (if (V_200 (mx_i h 382) i2) = 0 then 1 else (if i1 = i2 then 2 else (if (V_191 (mx_i h 382) i3 (1 : Int32) (40 : Int32)) = 0 then 2 else (if (mx_i h 382 4) = 10 then 3 else (if (V_196 (mx_i h 382) i1 (0 : Int32)) < i3 then 3 else 0)))))) : Int32)), mx_wp (d + 2) 253 36 [some (.ref 381), some (.int i1), some (.int i2), some (.int i3)] [.int v2, .ref 381] h Q := by
    intro v2 ev2
    have H := H.2 v2 ev2
    refine wp_steps (i' := 37) (ls' := [some (.ref 381), some (.int i1), some (.int i2), some (.int i3)]) (st' := []) (h' := mx_wi h 381 0 v2) (P := ((mxT 381).1 = 11 ∧ mxG h) ∧ True) 1 rfl rfl ⟨⟨(congrArg Prod.fst sT_381), G⟩, trivial⟩ ?_
    obtain ⟨h3, e4⟩ : ∃ z9, z9 = mx_wi h 381 0 v2 := ⟨_, rfl⟩
    rw [← e4]
    have H := H h3 e4
    have G5 : mxG h3 := e4 ▸ mxG_wi G
    refine wp_steps (i' := 39) (ls' := [some (.ref 381), some (.int i1), some (.int i2), some (.int i3)]) (st' := [.int (mx_i h3 381 0)]) (h' := h3) (P := ((mxT 381).1 = 11 ∧ mxG h3) ∧ True) 2 rfl rfl ⟨⟨(congrArg Prod.fst sT_381), G5⟩, trivial⟩ ?_
    refine wp_br (P := True) (c := (mx_i h3 381 0) ≤ 0) (t := 42) (st' := []) rfl rfl trivial (fun c6 => ?_) (fun c6 => ?_)
    · have c6 := Int32.not_lt.mpr c6
      have H := H.2 c6
      refine wp_steps (i' := 43) (ls' := [some (.ref 381), some (.int i1), some (.int i2), some (.int i3)]) (st' := [.ref 381]) (h' := h3) (P := True) 1 rfl rfl trivial ?_
      obtain ⟨o7, H⟩ := H
      refine wp_call (b := false) (y' := 250) (as := [.ref 381]) (rest := []) (P := ((mxT 381).1 = mxRc 250 ∧ mxG h3)) rfl (by with_unfolding_all rfl) ⟨(congrArg Prod.fst sT_381), G5⟩ (Nat.le_of_ble_eq_true rfl) (sp_250 G5 o7 ?_)
      intro h9 p10
      show mx_wp (d + 2) 253 44 [some (.ref 381), some (.int i1), some (.int i2), some (.int i3)] [] h9 Q
      have H := H h9 p10
      have G11 : mxG h9 := mxU_G p10.1 G5
      refine wp_steps (i' := 48) (ls' := [some (.ref 381), some (.int i1), some (.int i2), some (.int i3)]) (st' := [.int i3, .int i2, .int i1, .ref 381]) (h' := h9) (P := True) 4 rfl rfl trivial ?_
      obtain ⟨o12, o13, H⟩ := H
      refine wp_call (b := false) (y' := 252) (as := [.ref 381, .int i1, .int i2, .int i3]) (rest := []) (P := ((mxT 381).1 = mxRc 252 ∧ mxG h9)) rfl (by with_unfolding_all rfl) ⟨(congrArg Prod.fst sT_381), G11⟩ (Nat.le_of_ble_eq_true rfl) (sp_252 G11 o12 o13 ?_)
      show mx_wp (d + 2) 253 49 [some (.ref 381), some (.int i1), some (.int i2), some (.int i3)] [] (W_252 h9 i1 i2 i3) Q
      obtain ⟨h14, e15⟩ : ∃ z9, z9 = W_252 h9 i1 i2 i3 := ⟨_, rfl⟩
      rw [← e15]
      have H := H h14 e15
      have K17 : mxK h9 h14 := e15 ▸ KW_252
      have G16 : mxG h14 := mxK_G K17 G11
      refine wp_steps (i' := 54) (ls' := [some (.ref 381), some (.int i1), some (.int i2), some (.int i3)]) (st' := [.int i2, .int i3, .int i1, .int i2, .ref 381]) (h' := h14) (P := True) 5 rfl rfl trivial ?_
      obtain ⟨o18, o19, o20, o21, o22, o23, H⟩ := H
      refine wp_call (b := false) (y' := 220) (as := [.ref 381, .int i2, .int i1, .int i3, .int i2]) (rest := []) (P := ((mxT 381).1 = mxRc 220 ∧ mxG h14)) rfl (by with_unfolding_all rfl) ⟨(congrArg Prod.fst sT_381), G16⟩ (Nat.le_of_ble_eq_true rfl) (sp_220 G16 o18 o19 o20 o21 o22 o23 ?_)
      show mx_wp (d + 2) 253 55 [some (.ref 381), some (.int i1), some (.int i2), some (.int i3)] [] (W_220 h14 i2 i1 i3 i2) Q
      obtain ⟨h24, e25⟩ : ∃ z9, z9 = W_220 h14 i2 i1 i3 i2 := ⟨_, rfl⟩
      rw [← e25]
      have H := H h24 e25
      have K27 : mxK h14 h24 := e25 ▸ KW_220
      have G26 : mxG h24 := mxK_G K27 G16
      refine wp_steps (i' := 64) (ls' := [some (.ref 381), some (.int i1), some (.int i2), some (.int i3)]) (st' := [.int i3, .int 0, .int ((mx_i h24 382 4) - 1), .ref 381]) (h' := h24) (P := ((mxT 381).1 = 11 ∧ mxG h24) ∧ (((mxT 382).1 = 50 ∧ mxG h24) ∧ vp_in 4 (mxT 382).2) ∧ True) 9 rfl rfl ⟨⟨(congrArg Prod.fst sT_381), G26⟩, (cA sT_382 G26 (vpl rfl)), trivial⟩ ?_
      refine wp_call (b := false) (y' := 251) (as := [.ref 381, .int ((mx_i h24 382 4) - 1), .int 0, .int i3]) (rest := []) (P := ((mxT 381).1 = mxRc 251 ∧ mxG h24)) rfl (by with_unfolding_all rfl) ⟨(congrArg Prod.fst sT_381), G26⟩ (Nat.le_of_ble_eq_true rfl) (sp_251 G26 ?_)
      show mx_wp (d + 2) 253 65 [some (.ref 381), some (.int i1), some (.int i2), some (.int i3)] [] (mx_wrow h24 382 (mLog (mx_i h24 382) ((mx_i h24 382 4) - 1) (0 : Int32) i3)) Q
      obtain ⟨h28, e29⟩ : ∃ z9, z9 = mx_wrow h24 382 (mLog (mx_i h24 382) ((mx_i h24 382 4) - 1) (0 : Int32) i3) := ⟨_, rfl⟩
      rw [← e29]
      have H := H h28 e29
      have K31 : mxK h24 h28 := e29 ▸ mxK_wrow
      have G30 : mxG h28 := mxK_G K31 G26
      refine wp_steps (i' := 71) (ls' := [some (.ref 381), some (.int i1), some (.int i2), some (.int i3)]) (st' := [.int ((mx_i h28 382 4) - 1)]) (h' := h28) (P := ((mxT 381).1 = 11 ∧ mxG h28) ∧ (((mxT 382).1 = 50 ∧ mxG h28) ∧ vp_in 4 (mxT 382).2) ∧ True) 6 rfl rfl ⟨⟨(congrArg Prod.fst sT_381), G30⟩, (cA sT_382 G30 (vpl rfl)), trivial⟩ ?_
      exact wp_end (o := .inl (some (.int ((mx_i h28 382 4) - 1)))) (h' := h28) (P := True) rfl rfl trivial H
    · have c6 := Int32.not_le.mp c6
      have H := H.1 c6
      refine wp_steps (i' := 41) (ls' := [some (.ref 381), some (.int i1), some (.int i2), some (.int i3)]) (st' := [.int 0]) (h' := h3) (P := True) 1 rfl rfl trivial ?_
      exact wp_end (o := .inl (some (.int 0))) (h' := h3) (P := True) rfl rfl trivial H
  have H := H.1
  refine wp_br (P := True) (c := (V_200 (mx_i h 382) i1) = 0) (t := 9) (st' := [.ref 381]) rfl rfl trivial (fun c32 => ?_) (fun c32 => ?_)
  · skip
    refine wp_steps (i' := 10) (ls' := [some (.ref 381), some (.int i1), some (.int i2), some (.int i3)]) (st' := [.int 1, .ref 381]) (h' := h) (P := True) 1 rfl rfl trivial ?_
    refine wp_J (j := 36) (st' := [.int 1, .ref 381]) rfl rfl ?_
    exact J _ (by rw [if_pos c32])
  · skip
    have H := H.2 c32
    refine wp_steps (i' := 7) (ls' := [some (.ref 381), some (.int i1), some (.int i2), some (.int i3)]) (st' := [.int i2, .ref 381, .ref 381]) (h' := h) (P := True) 2 rfl rfl trivial ?_
    obtain ⟨o33, H⟩ := H
    refine wp_call (b := false) (y' := 200) (as := [.ref 381, .int i2]) (rest := [.ref 381]) (P := ((mxT 381).1 = mxRc 200 ∧ mxG h)) rfl (by with_unfolding_all rfl) ⟨(congrArg Prod.fst sT_381), G⟩ (Nat.le_of_ble_eq_true rfl) (sp_200 G o33 ?_)
    show mx_wp (d + 2) 253 8 [some (.ref 381), some (.int i1), some (.int i2), some (.int i3)] [.int (V_200 (mx_i h 382) i2), .ref 381] h Q
    refine wp_br (P := True) (c := ¬ (V_200 (mx_i h 382) i2) = 0) (t := 11) (st' := [.ref 381]) rfl rfl trivial (fun c34 => ?_) (fun c34 => ?_)
    · skip
      have H := H.2 c34
      refine wp_steps (i' := 13) (ls' := [some (.ref 381), some (.int i1), some (.int i2), some (.int i3)]) (st' := [.int i2, .int i1, .ref 381]) (h' := h) (P := True) 2 rfl rfl trivial ?_
      refine wp_br (P := True) (c := i1 = i2) (t := 19) (st' := [.ref 381]) rfl rfl trivial (fun c35 => ?_) (fun c35 => ?_)
      · skip
        refine wp_steps (i' := 20) (ls' := [some (.ref 381), some (.int i1), some (.int i2), some (.int i3)]) (st' := [.int 2, .ref 381]) (h' := h) (P := True) 1 rfl rfl trivial ?_
        refine wp_J (j := 36) (st' := [.int 2, .ref 381]) rfl rfl ?_
        exact J _ (by rw [if_neg c32, if_neg c34, if_pos c35])
      · skip
        have H := H.2 c35
        refine wp_steps (i' := 17) (ls' := [some (.ref 381), some (.int i1), some (.int i2), some (.int i3)]) (st' := [.int 40, .int 1, .int i3, .ref 381]) (h' := h) (P := True) 3 rfl rfl trivial ?_
        refine wp_call (b := false) (y' := 191) (as := [.int i3, .int 1, .int 40]) (rest := [.ref 381]) (P := True) rfl (by with_unfolding_all rfl) trivial (Nat.le_of_ble_eq_true rfl) (sp_191 G ?_)
        show mx_wp (d + 2) 253 18 [some (.ref 381), some (.int i1), some (.int i2), some (.int i3)] [.int (V_191 (mx_i h 382) i3 (1 : Int32) (40 : Int32)), .ref 381] h Q
        refine wp_br (P := True) (c := ¬ (V_191 (mx_i h 382) i3 (1 : Int32) (40 : Int32)) = 0) (t := 21) (st' := [.ref 381]) rfl rfl trivial (fun c36 => ?_) (fun c36 => ?_)
        · skip
          have H := H.2 c36
          refine wp_steps (i' := 26) (ls' := [some (.ref 381), some (.int i1), some (.int i2), some (.int i3)]) (st' := [.int 10, .int (mx_i h 382 4), .ref 381]) (h' := h) (P := ((mxT 381).1 = 11 ∧ mxG h) ∧ (((mxT 382).1 = 50 ∧ mxG h) ∧ vp_in 4 (mxT 382).2) ∧ True) 5 rfl rfl ⟨⟨(congrArg Prod.fst sT_381), G⟩, (cA sT_382 G (vpl rfl)), trivial⟩ ?_
          refine wp_br (P := True) (c := (mx_i h 382 4) = 10) (t := 33) (st' := [.ref 381]) rfl rfl trivial (fun c37 => ?_) (fun c37 => ?_)
          · skip
            refine wp_steps (i' := 34) (ls' := [some (.ref 381), some (.int i1), some (.int i2), some (.int i3)]) (st' := [.int 3, .ref 381]) (h' := h) (P := True) 1 rfl rfl trivial ?_
            refine wp_J (j := 36) (st' := [.int 3, .ref 381]) rfl rfl ?_
            exact J _ (by rw [if_neg c32, if_neg c34, if_neg c35, if_neg c36, if_pos c37])
          · skip
            have H := H.2 c37
            refine wp_steps (i' := 30) (ls' := [some (.ref 381), some (.int i1), some (.int i2), some (.int i3)]) (st' := [.int 0, .int i1, .ref 381, .ref 381]) (h' := h) (P := True) 3 rfl rfl trivial ?_
            obtain ⟨o38, H⟩ := H
            refine wp_call (b := false) (y' := 196) (as := [.ref 381, .int i1, .int 0]) (rest := [.ref 381]) (P := ((mxT 381).1 = mxRc 196 ∧ mxG h)) rfl (by with_unfolding_all rfl) ⟨(congrArg Prod.fst sT_381), G⟩ (Nat.le_of_ble_eq_true rfl) (sp_196 G o38 ?_)
            show mx_wp (d + 2) 253 31 [some (.ref 381), some (.int i1), some (.int i2), some (.int i3)] [.int (V_196 (mx_i h 382) i1 (0 : Int32)), .ref 381] h Q
            refine wp_steps (i' := 32) (ls' := [some (.ref 381), some (.int i1), some (.int i2), some (.int i3)]) (st' := [.int i3, .int (V_196 (mx_i h 382) i1 (0 : Int32)), .ref 381]) (h' := h) (P := True) 1 rfl rfl trivial ?_
            refine wp_br (P := True) (c := i3 ≤ (V_196 (mx_i h 382) i1 (0 : Int32))) (t := 35) (st' := [.ref 381]) rfl rfl trivial (fun c39 => ?_) (fun c39 => ?_)
            · have c39 := Int32.not_lt.mpr c39
              refine wp_steps (i' := 36) (ls' := [some (.ref 381), some (.int i1), some (.int i2), some (.int i3)]) (st' := [.int 0, .ref 381]) (h' := h) (P := True) 1 rfl rfl trivial ?_
              exact J _ (by rw [if_neg c32, if_neg c34, if_neg c35, if_neg c36, if_neg c37, if_neg c39])
            · have c39 := Int32.not_le.mp c39
              refine wp_steps (i' := 34) (ls' := [some (.ref 381), some (.int i1), some (.int i2), some (.int i3)]) (st' := [.int 3, .ref 381]) (h' := h) (P := True) 1 rfl rfl trivial ?_
              refine wp_J (j := 36) (st' := [.int 3, .ref 381]) rfl rfl ?_
              exact J _ (by rw [if_neg c32, if_neg c34, if_neg c35, if_neg c36, if_neg c37, if_pos c39])
        · have c36 := Decidable.of_not_not c36
          refine wp_steps (i' := 20) (ls' := [some (.ref 381), some (.int i1), some (.int i2), some (.int i3)]) (st' := [.int 2, .ref 381]) (h' := h) (P := True) 1 rfl rfl trivial ?_
          refine wp_J (j := 36) (st' := [.int 2, .ref 381]) rfl rfl ?_
          exact J _ (by rw [if_neg c32, if_neg c34, if_neg c35, if_pos c36])
    · have c34 := Decidable.of_not_not c34
      refine wp_steps (i' := 10) (ls' := [some (.ref 381), some (.int i1), some (.int i2), some (.int i3)]) (st' := [.int 1, .ref 381]) (h' := h) (P := True) 1 rfl rfl trivial ?_
      refine wp_J (j := 36) (st' := [.int 1, .ref 381]) rfl rfl ?_
      exact J _ (by rw [if_neg c32, if_pos c34])
/-! 254: StoneBacksModel.pay(I)I -/
set_option maxRecDepth 8000 in
theorem tr_254_0 {d : Nat} {h : mxH} {Q : mxO → mxH → Prop} {i1 : Int32} (G : mxG h)  (H : (((V_191 (mx_i h 382) i1 (0 : Int32) ((mx_i h 382 4) - 1)) = 0 ∨ (V_191 (mx_i h 382) i1 (0 : Int32) ((mx_i h 382 4) - 1)) = 1) ∧ (∀ (v2 : Int32), v2 = ((if (V_201 (mx_i h 382) i1) = 0 then 1 else 0) : Int32) → (∀ h3, h3 = mx_wi h 381 0 v2 → ((0 < (mx_i h3 381 0) → Q (.inl (some (.int 0))) h3) ∧ (¬ 0 < (mx_i h3 381 0) → (vp_in ((69 + (6 * i1)) + (0 : Int32)) 769 ∧ (vp_in ((69 + (6 * i1)) + (2 : Int32)) 769 ∧ (vp_in ((69 + (6 * i1)) + (3 : Int32)) 769 ∧ ((((V_198 (mx_i h3 382) i1 (3 : Int32)) = 2 → True) ∧ (¬ (V_198 (mx_i h3 382) i1 (3 : Int32)) = 2 → (vp_in ((33 + (6 * (V_198 (mx_i h3 382) i1 (0 : Int32)))) + (0 : Int32)) 769 ∧ True))) ∧ (∀ (v10 : Int32), v10 = ((if (V_198 (mx_i h3 382) i1 (3 : Int32)) = 2 then 2 else (if (V_196 (mx_i h3 382) (V_198 (mx_i h3 382) i1 (0 : Int32)) (0 : Int32)) < (V_198 (mx_i h3 382) i1 (2 : Int32)) then 2 else 0)) : Int32) → (∀ h11, h11 = mx_wi h3 381 0 v10 → ((0 < (mx_i h11 381 0) → Q (.inl (some (.int 0))) h11) ∧ (¬ 0 < (mx_i h11 381 0) → (cB (mx_i h11 381 6) 12 ∧ (∀ (h17 : mxH), rmM h11 h17 → (vp_in ((69 + (6 * i1)) + (1 : Int32)) 769 ∧ (vp_in ((33 + (6 * (V_198 (mx_i h3 382) i1 (0 : Int32)))) + (0 : Int32)) 769 ∧ vp_in ((33 + (6 * (V_198 (mx_i h17 382) i1 (1 : Int32)))) + (0 : Int32)) 769 ∧ (∀ h23, h23 = W_252 h17 (V_198 (mx_i h3 382) i1 (0 : Int32)) (V_198 (mx_i h17 382) i1 (1 : Int32)) (V_198 (mx_i h3 382) i1 (2 : Int32)) → (∀ h27, h27 = W_199 h23 i1 (3 : Int32) (2 : Int32) → (∀ h31, h31 = mx_wrow h27 382 (mLog (mx_i h27 382) i1 (1 : Int32) (V_198 (mx_i h3 382) i1 (2 : Int32))) → Q (.inl (some (.int (V_196 (mx_i h31 382) (V_198 (mx_i h3 382) i1 (0 : Int32)) (0 : Int32))))) h31))))))))))))))))))))) : mx_wp (d + 2) 254 0 (mx_fr 254 [.ref 381, .int i1]) [] h Q := by
  show mx_wp (d + 2) 254 0 [some (.ref 381), some (.int i1), none, none] [] h Q
  refine wp_steps (i' := 3) (ls' := [some (.ref 381), some (.int i1), none, none]) (st' := [.int i1, .ref 381, .ref 381]) (h' := h) (P := True) 3 rfl rfl trivial ?_
  obtain ⟨o1, H⟩ := H
  refine wp_call (b := false) (y' := 201) (as := [.ref 381, .int i1]) (rest := [.ref 381]) (P := ((mxT 381).1 = mxRc 201 ∧ mxG h)) rfl (by with_unfolding_all rfl) ⟨(congrArg Prod.fst sT_381), G⟩ (Nat.le_of_ble_eq_true rfl) (sp_201 G o1 ?_)
  show mx_wp (d + 2) 254 4 [some (.ref 381), some (.int i1), none, none] [.int (V_201 (mx_i h 382) i1), .ref 381] h Q
  have J : ∀ (v2 : Int32) (ev2 : v2 = ((if (V_201 (mx_i h 382) i1) = 0 then 1 else 0) : Int32)), mx_wp (d + 2) 254 8 [some (.ref 381), some (.int i1), none, none] [.int v2, .ref 381] h Q := by
    intro v2 ev2
    have H := H v2 ev2
    refine wp_steps (i' := 9) (ls' := [some (.ref 381), some (.int i1), none, none]) (st' := []) (h' := mx_wi h 381 0 v2) (P := ((mxT 381).1 = 11 ∧ mxG h) ∧ True) 1 rfl rfl ⟨⟨(congrArg Prod.fst sT_381), G⟩, trivial⟩ ?_
    obtain ⟨h3, e4⟩ : ∃ z9, z9 = mx_wi h 381 0 v2 := ⟨_, rfl⟩
    rw [← e4]
    have H := H h3 e4
    have G5 : mxG h3 := e4 ▸ mxG_wi G
    refine wp_steps (i' := 11) (ls' := [some (.ref 381), some (.int i1), none, none]) (st' := [.int (mx_i h3 381 0)]) (h' := h3) (P := ((mxT 381).1 = 11 ∧ mxG h3) ∧ True) 2 rfl rfl ⟨⟨(congrArg Prod.fst sT_381), G5⟩, trivial⟩ ?_
    refine wp_br (P := True) (c := (mx_i h3 381 0) ≤ 0) (t := 14) (st' := []) rfl rfl trivial (fun c6 => ?_) (fun c6 => ?_)
    · have c6 := Int32.not_lt.mpr c6
      have H := H.2 c6
      refine wp_steps (i' := 17) (ls' := [some (.ref 381), some (.int i1), none, none]) (st' := [.int 0, .int i1, .ref 381]) (h' := h3) (P := True) 3 rfl rfl trivial ?_
      obtain ⟨o7, H⟩ := H
      refine wp_call (b := false) (y' := 198) (as := [.ref 381, .int i1, .int 0]) (rest := []) (P := ((mxT 381).1 = mxRc 198 ∧ mxG h3)) rfl (by with_unfolding_all rfl) ⟨(congrArg Prod.fst sT_381), G5⟩ (Nat.le_of_ble_eq_true rfl) (sp_198 G5 o7 ?_)
      show mx_wp (d + 2) 254 18 [some (.ref 381), some (.int i1), none, none] [.int (V_198 (mx_i h3 382) i1 (0 : Int32))] h3 Q
      refine wp_steps (i' := 22) (ls' := [some (.ref 381), some (.int i1), some (.int (V_198 (mx_i h3 382) i1 (0 : Int32))), none]) (st' := [.int 2, .int i1, .ref 381]) (h' := h3) (P := True) 4 rfl rfl trivial ?_
      obtain ⟨o8, H⟩ := H
      refine wp_call (b := false) (y' := 198) (as := [.ref 381, .int i1, .int 2]) (rest := []) (P := ((mxT 381).1 = mxRc 198 ∧ mxG h3)) rfl (by with_unfolding_all rfl) ⟨(congrArg Prod.fst sT_381), G5⟩ (Nat.le_of_ble_eq_true rfl) (sp_198 G5 o8 ?_)
      show mx_wp (d + 2) 254 23 [some (.ref 381), some (.int i1), some (.int (V_198 (mx_i h3 382) i1 (0 : Int32))), none] [.int (V_198 (mx_i h3 382) i1 (2 : Int32))] h3 Q
      refine wp_steps (i' := 28) (ls' := [some (.ref 381), some (.int i1), some (.int (V_198 (mx_i h3 382) i1 (0 : Int32))), some (.int (V_198 (mx_i h3 382) i1 (2 : Int32)))]) (st' := [.int 3, .int i1, .ref 381, .ref 381]) (h' := h3) (P := True) 5 rfl rfl trivial ?_
      obtain ⟨o9, H⟩ := H
      refine wp_call (b := false) (y' := 198) (as := [.ref 381, .int i1, .int 3]) (rest := [.ref 381]) (P := ((mxT 381).1 = mxRc 198 ∧ mxG h3)) rfl (by with_unfolding_all rfl) ⟨(congrArg Prod.fst sT_381), G5⟩ (Nat.le_of_ble_eq_true rfl) (sp_198 G5 o9 ?_)
      show mx_wp (d + 2) 254 29 [some (.ref 381), some (.int i1), some (.int (V_198 (mx_i h3 382) i1 (0 : Int32))), some (.int (V_198 (mx_i h3 382) i1 (2 : Int32)))] [.int (V_198 (mx_i h3 382) i1 (3 : Int32)), .ref 381] h3 Q
      refine wp_steps (i' := 30) (ls' := [some (.ref 381), some (.int i1), some (.int (V_198 (mx_i h3 382) i1 (0 : Int32))), some (.int (V_198 (mx_i h3 382) i1 (2 : Int32)))]) (st' := [.int 2, .int (V_198 (mx_i h3 382) i1 (3 : Int32)), .ref 381]) (h' := h3) (P := True) 1 rfl rfl trivial ?_
      have J : ∀ (v10 : Int32) (ev10 : v10 = ((if (V_198 (mx_i h3 382) i1 (3 : Int32)) = 2 then 2 else (if (V_196 (mx_i h3 382) (V_198 (mx_i h3 382) i1 (0 : Int32)) (0 : Int32)) < (V_198 (mx_i h3 382) i1 (2 : Int32)) then 2 else 0)) : Int32)), mx_wp (d + 2) 254 40 [some (.ref 381), some (.int i1), some (.int (V_198 (mx_i h3 382) i1 (0 : Int32))), some (.int (V_198 (mx_i h3 382) i1 (2 : Int32)))] [.int v10, .ref 381] h3 Q := by
        intro v10 ev10
        have H := H.2 v10 ev10
        refine wp_steps (i' := 41) (ls' := [some (.ref 381), some (.int i1), some (.int (V_198 (mx_i h3 382) i1 (0 : Int32))), some (.int (V_198 (mx_i h3 382) i1 (2 : Int32)))]) (st' := []) (h' := mx_wi h3 381 0 v10) (P := ((mxT 381).1 = 11 ∧ mxG h3) ∧ True) 1 rfl rfl ⟨⟨(congrArg Prod.fst sT_381), G5⟩, trivial⟩ ?_
        obtain ⟨h11, e12⟩ : ∃ z9, z9 = mx_wi h3 381 0 v10 := ⟨_, rfl⟩
        rw [← e12]
        have H := H h11 e12
        have G13 : mxG h11 := e12 ▸ mxG_wi G5
        refine wp_steps (i' := 43) (ls' := [some (.ref 381), some (.int i1), some (.int (V_198 (mx_i h3 382) i1 (0 : Int32))), some (.int (V_198 (mx_i h3 382) i1 (2 : Int32)))]) (st' := [.int (mx_i h11 381 0)]) (h' := h11) (P := ((mxT 381).1 = 11 ∧ mxG h11) ∧ True) 2 rfl rfl ⟨⟨(congrArg Prod.fst sT_381), G13⟩, trivial⟩ ?_
        refine wp_br (P := True) (c := (mx_i h11 381 0) ≤ 0) (t := 46) (st' := []) rfl rfl trivial (fun c14 => ?_) (fun c14 => ?_)
        · have c14 := Int32.not_lt.mpr c14
          have H := H.2 c14
          refine wp_steps (i' := 47) (ls' := [some (.ref 381), some (.int i1), some (.int (V_198 (mx_i h3 382) i1 (0 : Int32))), some (.int (V_198 (mx_i h3 382) i1 (2 : Int32)))]) (st' := [.ref 381]) (h' := h11) (P := True) 1 rfl rfl trivial ?_
          obtain ⟨o15, H⟩ := H
          refine wp_call (b := false) (y' := 250) (as := [.ref 381]) (rest := []) (P := ((mxT 381).1 = mxRc 250 ∧ mxG h11)) rfl (by with_unfolding_all rfl) ⟨(congrArg Prod.fst sT_381), G13⟩ (Nat.le_of_ble_eq_true rfl) (sp_250 G13 o15 ?_)
          intro h17 p18
          show mx_wp (d + 2) 254 48 [some (.ref 381), some (.int i1), some (.int (V_198 (mx_i h3 382) i1 (0 : Int32))), some (.int (V_198 (mx_i h3 382) i1 (2 : Int32)))] [] h17 Q
          have H := H h17 p18
          have G19 : mxG h17 := mxU_G p18.1 G13
          refine wp_steps (i' := 53) (ls' := [some (.ref 381), some (.int i1), some (.int (V_198 (mx_i h3 382) i1 (0 : Int32))), some (.int (V_198 (mx_i h3 382) i1 (2 : Int32)))]) (st' := [.int 1, .int i1, .ref 381, .int (V_198 (mx_i h3 382) i1 (0 : Int32)), .ref 381]) (h' := h17) (P := True) 5 rfl rfl trivial ?_
          obtain ⟨o20, H⟩ := H
          refine wp_call (b := false) (y' := 198) (as := [.ref 381, .int i1, .int 1]) (rest := [.int (V_198 (mx_i h3 382) i1 (0 : Int32)), .ref 381]) (P := ((mxT 381).1 = mxRc 198 ∧ mxG h17)) rfl (by with_unfolding_all rfl) ⟨(congrArg Prod.fst sT_381), G19⟩ (Nat.le_of_ble_eq_true rfl) (sp_198 G19 o20 ?_)
          show mx_wp (d + 2) 254 54 [some (.ref 381), some (.int i1), some (.int (V_198 (mx_i h3 382) i1 (0 : Int32))), some (.int (V_198 (mx_i h3 382) i1 (2 : Int32)))] [.int (V_198 (mx_i h17 382) i1 (1 : Int32)), .int (V_198 (mx_i h3 382) i1 (0 : Int32)), .ref 381] h17 Q
          refine wp_steps (i' := 55) (ls' := [some (.ref 381), some (.int i1), some (.int (V_198 (mx_i h3 382) i1 (0 : Int32))), some (.int (V_198 (mx_i h3 382) i1 (2 : Int32)))]) (st' := [.int (V_198 (mx_i h3 382) i1 (2 : Int32)), .int (V_198 (mx_i h17 382) i1 (1 : Int32)), .int (V_198 (mx_i h3 382) i1 (0 : Int32)), .ref 381]) (h' := h17) (P := True) 1 rfl rfl trivial ?_
          obtain ⟨o21, o22, H⟩ := H
          refine wp_call (b := false) (y' := 252) (as := [.ref 381, .int (V_198 (mx_i h3 382) i1 (0 : Int32)), .int (V_198 (mx_i h17 382) i1 (1 : Int32)), .int (V_198 (mx_i h3 382) i1 (2 : Int32))]) (rest := []) (P := ((mxT 381).1 = mxRc 252 ∧ mxG h17)) rfl (by with_unfolding_all rfl) ⟨(congrArg Prod.fst sT_381), G19⟩ (Nat.le_of_ble_eq_true rfl) (sp_252 G19 o21 o22 ?_)
          show mx_wp (d + 2) 254 56 [some (.ref 381), some (.int i1), some (.int (V_198 (mx_i h3 382) i1 (0 : Int32))), some (.int (V_198 (mx_i h3 382) i1 (2 : Int32)))] [] (W_252 h17 (V_198 (mx_i h3 382) i1 (0 : Int32)) (V_198 (mx_i h17 382) i1 (1 : Int32)) (V_198 (mx_i h3 382) i1 (2 : Int32))) Q
          obtain ⟨h23, e24⟩ : ∃ z9, z9 = W_252 h17 (V_198 (mx_i h3 382) i1 (0 : Int32)) (V_198 (mx_i h17 382) i1 (1 : Int32)) (V_198 (mx_i h3 382) i1 (2 : Int32)) := ⟨_, rfl⟩
          rw [← e24]
          have H := H h23 e24
          have K26 : mxK h17 h23 := e24 ▸ KW_252
          have G25 : mxG h23 := mxK_G K26 G19
          refine wp_steps (i' := 60) (ls' := [some (.ref 381), some (.int i1), some (.int (V_198 (mx_i h3 382) i1 (0 : Int32))), some (.int (V_198 (mx_i h3 382) i1 (2 : Int32)))]) (st' := [.int 2, .int 3, .int i1, .ref 381]) (h' := h23) (P := True) 4 rfl rfl trivial ?_
          refine wp_call (b := false) (y' := 199) (as := [.ref 381, .int i1, .int 3, .int 2]) (rest := []) (P := ((mxT 381).1 = mxRc 199 ∧ mxG h23)) rfl (by with_unfolding_all rfl) ⟨(congrArg Prod.fst sT_381), G25⟩ (Nat.le_of_ble_eq_true rfl) (sp_199 G25 o9 ?_)
          show mx_wp (d + 2) 254 61 [some (.ref 381), some (.int i1), some (.int (V_198 (mx_i h3 382) i1 (0 : Int32))), some (.int (V_198 (mx_i h3 382) i1 (2 : Int32)))] [] (W_199 h23 i1 (3 : Int32) (2 : Int32)) Q
          obtain ⟨h27, e28⟩ : ∃ z9, z9 = W_199 h23 i1 (3 : Int32) (2 : Int32) := ⟨_, rfl⟩
          rw [← e28]
          have H := H h27 e28
          have K30 : mxK h23 h27 := e28 ▸ KW_199
          have G29 : mxG h27 := mxK_G K30 G25
          refine wp_steps (i' := 65) (ls' := [some (.ref 381), some (.int i1), some (.int (V_198 (mx_i h3 382) i1 (0 : Int32))), some (.int (V_198 (mx_i h3 382) i1 (2 : Int32)))]) (st' := [.int (V_198 (mx_i h3 382) i1 (2 : Int32)), .int 1, .int i1, .ref 381]) (h' := h27) (P := True) 4 rfl rfl trivial ?_
          refine wp_call (b := false) (y' := 251) (as := [.ref 381, .int i1, .int 1, .int (V_198 (mx_i h3 382) i1 (2 : Int32))]) (rest := []) (P := ((mxT 381).1 = mxRc 251 ∧ mxG h27)) rfl (by with_unfolding_all rfl) ⟨(congrArg Prod.fst sT_381), G29⟩ (Nat.le_of_ble_eq_true rfl) (sp_251 G29 ?_)
          show mx_wp (d + 2) 254 66 [some (.ref 381), some (.int i1), some (.int (V_198 (mx_i h3 382) i1 (0 : Int32))), some (.int (V_198 (mx_i h3 382) i1 (2 : Int32)))] [] (mx_wrow h27 382 (mLog (mx_i h27 382) i1 (1 : Int32) (V_198 (mx_i h3 382) i1 (2 : Int32)))) Q
          obtain ⟨h31, e32⟩ : ∃ z9, z9 = mx_wrow h27 382 (mLog (mx_i h27 382) i1 (1 : Int32) (V_198 (mx_i h3 382) i1 (2 : Int32))) := ⟨_, rfl⟩
          rw [← e32]
          have H := H h31 e32
          have K34 : mxK h27 h31 := e32 ▸ mxK_wrow
          have G33 : mxG h31 := mxK_G K34 G29
          refine wp_steps (i' := 69) (ls' := [some (.ref 381), some (.int i1), some (.int (V_198 (mx_i h3 382) i1 (0 : Int32))), some (.int (V_198 (mx_i h3 382) i1 (2 : Int32)))]) (st' := [.int 0, .int (V_198 (mx_i h3 382) i1 (0 : Int32)), .ref 381]) (h' := h31) (P := True) 3 rfl rfl trivial ?_
          refine wp_call (b := false) (y' := 196) (as := [.ref 381, .int (V_198 (mx_i h3 382) i1 (0 : Int32)), .int 0]) (rest := []) (P := ((mxT 381).1 = mxRc 196 ∧ mxG h31)) rfl (by with_unfolding_all rfl) ⟨(congrArg Prod.fst sT_381), G33⟩ (Nat.le_of_ble_eq_true rfl) (sp_196 G33 o21 ?_)
          show mx_wp (d + 2) 254 70 [some (.ref 381), some (.int i1), some (.int (V_198 (mx_i h3 382) i1 (0 : Int32))), some (.int (V_198 (mx_i h3 382) i1 (2 : Int32)))] [.int (V_196 (mx_i h31 382) (V_198 (mx_i h3 382) i1 (0 : Int32)) (0 : Int32))] h31 Q
          exact wp_end (o := .inl (some (.int (V_196 (mx_i h31 382) (V_198 (mx_i h3 382) i1 (0 : Int32)) (0 : Int32))))) (h' := h31) (P := True) rfl rfl trivial H
        · have c14 := Int32.not_le.mp c14
          have H := H.1 c14
          refine wp_steps (i' := 45) (ls' := [some (.ref 381), some (.int i1), some (.int (V_198 (mx_i h3 382) i1 (0 : Int32))), some (.int (V_198 (mx_i h3 382) i1 (2 : Int32)))]) (st' := [.int 0]) (h' := h11) (P := True) 1 rfl rfl trivial ?_
          exact wp_end (o := .inl (some (.int 0))) (h' := h11) (P := True) rfl rfl trivial H
      have H := H.1
      refine wp_br (P := True) (c := (V_198 (mx_i h3 382) i1 (3 : Int32)) = 2) (t := 37) (st' := [.ref 381]) rfl rfl trivial (fun c35 => ?_) (fun c35 => ?_)
      · skip
        refine wp_steps (i' := 38) (ls' := [some (.ref 381), some (.int i1), some (.int (V_198 (mx_i h3 382) i1 (0 : Int32))), some (.int (V_198 (mx_i h3 382) i1 (2 : Int32)))]) (st' := [.int 2, .ref 381]) (h' := h3) (P := True) 1 rfl rfl trivial ?_
        refine wp_J (j := 40) (st' := [.int 2, .ref 381]) rfl rfl ?_
        exact J _ (by rw [if_pos c35])
      · skip
        have H := H.2 c35
        refine wp_steps (i' := 34) (ls' := [some (.ref 381), some (.int i1), some (.int (V_198 (mx_i h3 382) i1 (0 : Int32))), some (.int (V_198 (mx_i h3 382) i1 (2 : Int32)))]) (st' := [.int 0, .int (V_198 (mx_i h3 382) i1 (0 : Int32)), .ref 381, .ref 381]) (h' := h3) (P := True) 3 rfl rfl trivial ?_
        obtain ⟨o36, H⟩ := H
        refine wp_call (b := false) (y' := 196) (as := [.ref 381, .int (V_198 (mx_i h3 382) i1 (0 : Int32)), .int 0]) (rest := [.ref 381]) (P := ((mxT 381).1 = mxRc 196 ∧ mxG h3)) rfl (by with_unfolding_all rfl) ⟨(congrArg Prod.fst sT_381), G5⟩ (Nat.le_of_ble_eq_true rfl) (sp_196 G5 o36 ?_)
        show mx_wp (d + 2) 254 35 [some (.ref 381), some (.int i1), some (.int (V_198 (mx_i h3 382) i1 (0 : Int32))), some (.int (V_198 (mx_i h3 382) i1 (2 : Int32)))] [.int (V_196 (mx_i h3 382) (V_198 (mx_i h3 382) i1 (0 : Int32)) (0 : Int32)), .ref 381] h3 Q
        refine wp_steps (i' := 36) (ls' := [some (.ref 381), some (.int i1), some (.int (V_198 (mx_i h3 382) i1 (0 : Int32))), some (.int (V_198 (mx_i h3 382) i1 (2 : Int32)))]) (st' := [.int (V_198 (mx_i h3 382) i1 (2 : Int32)), .int (V_196 (mx_i h3 382) (V_198 (mx_i h3 382) i1 (0 : Int32)) (0 : Int32)), .ref 381]) (h' := h3) (P := True) 1 rfl rfl trivial ?_
        refine wp_br (P := True) (c := (V_198 (mx_i h3 382) i1 (2 : Int32)) ≤ (V_196 (mx_i h3 382) (V_198 (mx_i h3 382) i1 (0 : Int32)) (0 : Int32))) (t := 39) (st' := [.ref 381]) rfl rfl trivial (fun c37 => ?_) (fun c37 => ?_)
        · have c37 := Int32.not_lt.mpr c37
          refine wp_steps (i' := 40) (ls' := [some (.ref 381), some (.int i1), some (.int (V_198 (mx_i h3 382) i1 (0 : Int32))), some (.int (V_198 (mx_i h3 382) i1 (2 : Int32)))]) (st' := [.int 0, .ref 381]) (h' := h3) (P := True) 1 rfl rfl trivial ?_
          exact J _ (by rw [if_neg c35, if_neg c37])
        · have c37 := Int32.not_le.mp c37
          refine wp_steps (i' := 38) (ls' := [some (.ref 381), some (.int i1), some (.int (V_198 (mx_i h3 382) i1 (0 : Int32))), some (.int (V_198 (mx_i h3 382) i1 (2 : Int32)))]) (st' := [.int 2, .ref 381]) (h' := h3) (P := True) 1 rfl rfl trivial ?_
          refine wp_J (j := 40) (st' := [.int 2, .ref 381]) rfl rfl ?_
          exact J _ (by rw [if_neg c35, if_pos c37])
    · have c6 := Int32.not_le.mp c6
      have H := H.1 c6
      refine wp_steps (i' := 13) (ls' := [some (.ref 381), some (.int i1), none, none]) (st' := [.int 0]) (h' := h3) (P := True) 1 rfl rfl trivial ?_
      exact wp_end (o := .inl (some (.int 0))) (h' := h3) (P := True) rfl rfl trivial H
  refine wp_br (P := True) (c := ¬ (V_201 (mx_i h 382) i1) = 0) (t := 7) (st' := [.ref 381]) rfl rfl trivial (fun c38 => ?_) (fun c38 => ?_)
  · skip
    refine wp_steps (i' := 8) (ls' := [some (.ref 381), some (.int i1), none, none]) (st' := [.int 0, .ref 381]) (h' := h) (P := True) 1 rfl rfl trivial ?_
    exact J _ (by rw [if_neg c38])
  · have c38 := Decidable.of_not_not c38
    refine wp_steps (i' := 6) (ls' := [some (.ref 381), some (.int i1), none, none]) (st' := [.int 1, .ref 381]) (h' := h) (P := True) 1 rfl rfl trivial ?_
    refine wp_J (j := 8) (st' := [.int 1, .ref 381]) rfl rfl ?_
    exact J _ (by rw [if_pos c38])
/-! 255: StoneBacksModel.split(I)I -/
def H_255_53 (d : Nat) (h : mxH) (i1 : Int32) (i2 : Int32) (i3 : Int32) (i4 : Int32) (Q : mxO → mxH → Prop) : Prop := mx_wp d 255 53 [some (.ref 381), some (.int i1), some (.int i2), some (.int i3), some (.int i4)] [] h Q
set_option maxRecDepth 8000 in
theorem tr_255_0 {d : Nat} {h : mxH} {Q : mxO → mxH → Prop} {i1 : Int32} (G : mxG h)  (H : (((V_191 (mx_i h 382) i1 (0 : Int32) ((mx_i h 382 4) - 1)) = 0 ∨ (V_191 (mx_i h 382) i1 (0 : Int32) ((mx_i h 382 4) - 1)) = 1) ∧ ((((V_201 (mx_i h 382) i1) = 0 → True) ∧ (¬ (V_201 (mx_i h 382) i1) = 0 → (vp_in ((69 + (6 * i1)) + (3 : Int32)) 769 ∧ (((V_198 (mx_i h 382) i1 (3 : Int32)) = 2 → True) ∧ (¬ (V_198 (mx_i h 382) i1 (3 : Int32)) = 2 → (vp_in ((69 + (6 * i1)) + (2 : Int32)) 769 ∧ True)))))) ∧ (∀ (v2 : Int32), v2 = ((if (V_201 (mx_i h 382) i1) = 0 then 1 else (if (V_198 (mx_i h 382) i1 (3 : Int32)) = 2 then 2 else (if (V_198 (mx_i h 382) i1 (2 : Int32)) = 1 then 2 else (if (mx_i h 382 4) = 10 then 2 else 0)))) : Int32) → (∀ h3, h3 = mx_wi h 381 0 v2 → ((0 < (mx_i h3 381 0) → Q (.inl (some (.int 0))) h3) ∧ (¬ 0 < (mx_i h3 381 0) → (cB (mx_i h3 381 6) 12 ∧ (∀ (h9 : mxH), rmM h3 h9 → (vp_in ((69 + (6 * i1)) + (2 : Int32)) 769 ∧ (∀ h13, h13 = mx_wrow h9 382 (mLog (mx_i h9 382) i1 (2 : Int32) (V_198 (mx_i h9 382) i1 (2 : Int32))) → H_255_53 (d + 2) h13 i1 (V_198 (mx_i h9 382) i1 (2 : Int32)) (mx_i h9 382 4) 0 Q))))))))))) : mx_wp (d + 2) 255 0 (mx_fr 255 [.ref 381, .int i1]) [] h Q := by
  show mx_wp (d + 2) 255 0 [some (.ref 381), some (.int i1), none, none, none] [] h Q
  refine wp_steps (i' := 3) (ls' := [some (.ref 381), some (.int i1), none, none, none]) (st' := [.int i1, .ref 381, .ref 381]) (h' := h) (P := True) 3 rfl rfl trivial ?_
  obtain ⟨o1, H⟩ := H
  refine wp_call (b := false) (y' := 201) (as := [.ref 381, .int i1]) (rest := [.ref 381]) (P := ((mxT 381).1 = mxRc 201 ∧ mxG h)) rfl (by with_unfolding_all rfl) ⟨(congrArg Prod.fst sT_381), G⟩ (Nat.le_of_ble_eq_true rfl) (sp_201 G o1 ?_)
  show mx_wp (d + 2) 255 4 [some (.ref 381), some (.int i1), none, none, none] [.int (V_201 (mx_i h 382) i1), .ref 381] h Q
  have J : ∀ (v2 : Int32) (ev2 : v2 = ((if (V_201 (mx_i h 382) i1) = 0 then 1 else (if (V_198 (mx_i h 382) i1 (3 : Int32)) = 2 then 2 else (if (V_198 (mx_i h 382) i1 (2 : Int32)) = 1 then 2 else (if (mx_i h 382 4) = 10 then 2 else 0)))) : Int32)), mx_wp (d + 2) 255 28 [some (.ref 381), some (.int i1), none, none, none] [.int v2, .ref 381] h Q := by
    intro v2 ev2
    have H := H.2 v2 ev2
    refine wp_steps (i' := 29) (ls' := [some (.ref 381), some (.int i1), none, none, none]) (st' := []) (h' := mx_wi h 381 0 v2) (P := ((mxT 381).1 = 11 ∧ mxG h) ∧ True) 1 rfl rfl ⟨⟨(congrArg Prod.fst sT_381), G⟩, trivial⟩ ?_
    obtain ⟨h3, e4⟩ : ∃ z9, z9 = mx_wi h 381 0 v2 := ⟨_, rfl⟩
    rw [← e4]
    have H := H h3 e4
    have G5 : mxG h3 := e4 ▸ mxG_wi G
    refine wp_steps (i' := 31) (ls' := [some (.ref 381), some (.int i1), none, none, none]) (st' := [.int (mx_i h3 381 0)]) (h' := h3) (P := ((mxT 381).1 = 11 ∧ mxG h3) ∧ True) 2 rfl rfl ⟨⟨(congrArg Prod.fst sT_381), G5⟩, trivial⟩ ?_
    refine wp_br (P := True) (c := (mx_i h3 381 0) ≤ 0) (t := 34) (st' := []) rfl rfl trivial (fun c6 => ?_) (fun c6 => ?_)
    · have c6 := Int32.not_lt.mpr c6
      have H := H.2 c6
      refine wp_steps (i' := 35) (ls' := [some (.ref 381), some (.int i1), none, none, none]) (st' := [.ref 381]) (h' := h3) (P := True) 1 rfl rfl trivial ?_
      obtain ⟨o7, H⟩ := H
      refine wp_call (b := false) (y' := 250) (as := [.ref 381]) (rest := []) (P := ((mxT 381).1 = mxRc 250 ∧ mxG h3)) rfl (by with_unfolding_all rfl) ⟨(congrArg Prod.fst sT_381), G5⟩ (Nat.le_of_ble_eq_true rfl) (sp_250 G5 o7 ?_)
      intro h9 p10
      show mx_wp (d + 2) 255 36 [some (.ref 381), some (.int i1), none, none, none] [] h9 Q
      have H := H h9 p10
      have G11 : mxG h9 := mxU_G p10.1 G5
      refine wp_steps (i' := 39) (ls' := [some (.ref 381), some (.int i1), none, none, none]) (st' := [.int 2, .int i1, .ref 381]) (h' := h9) (P := True) 3 rfl rfl trivial ?_
      obtain ⟨o12, H⟩ := H
      refine wp_call (b := false) (y' := 198) (as := [.ref 381, .int i1, .int 2]) (rest := []) (P := ((mxT 381).1 = mxRc 198 ∧ mxG h9)) rfl (by with_unfolding_all rfl) ⟨(congrArg Prod.fst sT_381), G11⟩ (Nat.le_of_ble_eq_true rfl) (sp_198 G11 o12 ?_)
      show mx_wp (d + 2) 255 40 [some (.ref 381), some (.int i1), none, none, none] [.int (V_198 (mx_i h9 382) i1 (2 : Int32))] h9 Q
      refine wp_steps (i' := 50) (ls' := [some (.ref 381), some (.int i1), some (.int (V_198 (mx_i h9 382) i1 (2 : Int32))), some (.int (mx_i h9 382 4)), none]) (st' := [.int (V_198 (mx_i h9 382) i1 (2 : Int32)), .int 2, .int i1, .ref 381]) (h' := h9) (P := ((mxT 381).1 = 11 ∧ mxG h9) ∧ (((mxT 382).1 = 50 ∧ mxG h9) ∧ vp_in 4 (mxT 382).2) ∧ True) 10 rfl rfl ⟨⟨(congrArg Prod.fst sT_381), G11⟩, (cA sT_382 G11 (vpl rfl)), trivial⟩ ?_
      refine wp_call (b := false) (y' := 251) (as := [.ref 381, .int i1, .int 2, .int (V_198 (mx_i h9 382) i1 (2 : Int32))]) (rest := []) (P := ((mxT 381).1 = mxRc 251 ∧ mxG h9)) rfl (by with_unfolding_all rfl) ⟨(congrArg Prod.fst sT_381), G11⟩ (Nat.le_of_ble_eq_true rfl) (sp_251 G11 ?_)
      show mx_wp (d + 2) 255 51 [some (.ref 381), some (.int i1), some (.int (V_198 (mx_i h9 382) i1 (2 : Int32))), some (.int (mx_i h9 382 4)), none] [] (mx_wrow h9 382 (mLog (mx_i h9 382) i1 (2 : Int32) (V_198 (mx_i h9 382) i1 (2 : Int32)))) Q
      obtain ⟨h13, e14⟩ : ∃ z9, z9 = mx_wrow h9 382 (mLog (mx_i h9 382) i1 (2 : Int32) (V_198 (mx_i h9 382) i1 (2 : Int32))) := ⟨_, rfl⟩
      rw [← e14]
      have H := H h13 e14
      have K16 : mxK h9 h13 := e14 ▸ mxK_wrow
      have G15 : mxG h13 := mxK_G K16 G11
      refine wp_steps (i' := 53) (ls' := [some (.ref 381), some (.int i1), some (.int (V_198 (mx_i h9 382) i1 (2 : Int32))), some (.int (mx_i h9 382 4)), some (.int 0)]) (st' := []) (h' := h13) (P := True) 2 rfl rfl trivial ?_
      exact H 
    · have c6 := Int32.not_le.mp c6
      have H := H.1 c6
      refine wp_steps (i' := 33) (ls' := [some (.ref 381), some (.int i1), none, none, none]) (st' := [.int 0]) (h' := h3) (P := True) 1 rfl rfl trivial ?_
      exact wp_end (o := .inl (some (.int 0))) (h' := h3) (P := True) rfl rfl trivial H
  have H := H.1
  refine wp_br (P := True) (c := ¬ (V_201 (mx_i h 382) i1) = 0) (t := 7) (st' := [.ref 381]) rfl rfl trivial (fun c17 => ?_) (fun c17 => ?_)
  · skip
    have H := H.2 c17
    refine wp_steps (i' := 10) (ls' := [some (.ref 381), some (.int i1), none, none, none]) (st' := [.int 3, .int i1, .ref 381, .ref 381]) (h' := h) (P := True) 3 rfl rfl trivial ?_
    obtain ⟨o18, H⟩ := H
    refine wp_call (b := false) (y' := 198) (as := [.ref 381, .int i1, .int 3]) (rest := [.ref 381]) (P := ((mxT 381).1 = mxRc 198 ∧ mxG h)) rfl (by with_unfolding_all rfl) ⟨(congrArg Prod.fst sT_381), G⟩ (Nat.le_of_ble_eq_true rfl) (sp_198 G o18 ?_)
    show mx_wp (d + 2) 255 11 [some (.ref 381), some (.int i1), none, none, none] [.int (V_198 (mx_i h 382) i1 (3 : Int32)), .ref 381] h Q
    refine wp_steps (i' := 12) (ls' := [some (.ref 381), some (.int i1), none, none, none]) (st' := [.int 2, .int (V_198 (mx_i h 382) i1 (3 : Int32)), .ref 381]) (h' := h) (P := True) 1 rfl rfl trivial ?_
    refine wp_br (P := True) (c := (V_198 (mx_i h 382) i1 (3 : Int32)) = 2) (t := 25) (st' := [.ref 381]) rfl rfl trivial (fun c19 => ?_) (fun c19 => ?_)
    · skip
      refine wp_steps (i' := 26) (ls' := [some (.ref 381), some (.int i1), none, none, none]) (st' := [.int 2, .ref 381]) (h' := h) (P := True) 1 rfl rfl trivial ?_
      refine wp_J (j := 28) (st' := [.int 2, .ref 381]) rfl rfl ?_
      exact J _ (by rw [if_neg c17, if_pos c19])
    · skip
      have H := H.2 c19
      refine wp_steps (i' := 16) (ls' := [some (.ref 381), some (.int i1), none, none, none]) (st' := [.int 2, .int i1, .ref 381, .ref 381]) (h' := h) (P := True) 3 rfl rfl trivial ?_
      obtain ⟨o20, H⟩ := H
      refine wp_call (b := false) (y' := 198) (as := [.ref 381, .int i1, .int 2]) (rest := [.ref 381]) (P := ((mxT 381).1 = mxRc 198 ∧ mxG h)) rfl (by with_unfolding_all rfl) ⟨(congrArg Prod.fst sT_381), G⟩ (Nat.le_of_ble_eq_true rfl) (sp_198 G o20 ?_)
      show mx_wp (d + 2) 255 17 [some (.ref 381), some (.int i1), none, none, none] [.int (V_198 (mx_i h 382) i1 (2 : Int32)), .ref 381] h Q
      refine wp_steps (i' := 18) (ls' := [some (.ref 381), some (.int i1), none, none, none]) (st' := [.int 1, .int (V_198 (mx_i h 382) i1 (2 : Int32)), .ref 381]) (h' := h) (P := True) 1 rfl rfl trivial ?_
      refine wp_br (P := True) (c := (V_198 (mx_i h 382) i1 (2 : Int32)) = 1) (t := 25) (st' := [.ref 381]) rfl rfl trivial (fun c21 => ?_) (fun c21 => ?_)
      · skip
        refine wp_steps (i' := 26) (ls' := [some (.ref 381), some (.int i1), none, none, none]) (st' := [.int 2, .ref 381]) (h' := h) (P := True) 1 rfl rfl trivial ?_
        refine wp_J (j := 28) (st' := [.int 2, .ref 381]) rfl rfl ?_
        exact J _ (by rw [if_neg c17, if_neg c19, if_pos c21])
      · skip
        refine wp_steps (i' := 24) (ls' := [some (.ref 381), some (.int i1), none, none, none]) (st' := [.int 10, .int (mx_i h 382 4), .ref 381]) (h' := h) (P := ((mxT 381).1 = 11 ∧ mxG h) ∧ (((mxT 382).1 = 50 ∧ mxG h) ∧ vp_in 4 (mxT 382).2) ∧ True) 5 rfl rfl ⟨⟨(congrArg Prod.fst sT_381), G⟩, (cA sT_382 G (vpl rfl)), trivial⟩ ?_
        refine wp_br (P := True) (c := ¬ (mx_i h 382 4) = 10) (t := 27) (st' := [.ref 381]) rfl rfl trivial (fun c22 => ?_) (fun c22 => ?_)
        · skip
          refine wp_steps (i' := 28) (ls' := [some (.ref 381), some (.int i1), none, none, none]) (st' := [.int 0, .ref 381]) (h' := h) (P := True) 1 rfl rfl trivial ?_
          exact J _ (by rw [if_neg c17, if_neg c19, if_neg c21, if_neg c22])
        · have c22 := Decidable.of_not_not c22
          refine wp_steps (i' := 26) (ls' := [some (.ref 381), some (.int i1), none, none, none]) (st' := [.int 2, .ref 381]) (h' := h) (P := True) 1 rfl rfl trivial ?_
          refine wp_J (j := 28) (st' := [.int 2, .ref 381]) rfl rfl ?_
          exact J _ (by rw [if_neg c17, if_neg c19, if_neg c21, if_pos c22])
  · have c17 := Decidable.of_not_not c17
    refine wp_steps (i' := 6) (ls' := [some (.ref 381), some (.int i1), none, none, none]) (st' := [.int 1, .ref 381]) (h' := h) (P := True) 1 rfl rfl trivial ?_
    refine wp_J (j := 28) (st' := [.int 1, .ref 381]) rfl rfl ?_
    exact J _ (by rw [if_pos c17])
set_option maxRecDepth 8000 in
theorem tr_255_53 {d : Nat} {h : mxH} {Q : mxO → mxH → Prop}  {i1 : Int32} {i2 : Int32} {i3 : Int32} {i4 : Int32} (G : mxG h)  (H : ((i4 < 6 → (vp_in ((69 + (6 * i1)) + i4) 769 ∧ (vp_in ((69 + (6 * i3)) + i4) 769 ∧ (∀ h17, h17 = W_199 h i3 i4 (V_198 (mx_i h 382) i1 i4) → H_255_53 (d + 2) h17 i1 i2 i3 (i4 + 1) Q)))) ∧ (¬ i4 < 6 → (vp_in ((69 + (6 * i3)) + (2 : Int32)) 769 ∧ (∀ h3, h3 = W_199 h i3 (2 : Int32) (i2 / 2) → (vp_in ((69 + (6 * i1)) + (2 : Int32)) 769 ∧ (∀ h8, h8 = W_199 h3 i1 (2 : Int32) (i2 - (i2 / 2)) → (∀ h12, h12 = mx_wi h8 382 4 ((mx_i h8 382 4) + 1) → Q (.inl (some (.int i3))) h12)))))))) : H_255_53 (d + 2) h i1 i2 i3 i4 Q := by
  show mx_wp (d + 2) 255 53 [some (.ref 381), some (.int i1), some (.int i2), some (.int i3), some (.int i4)] [] h Q
  refine wp_steps (i' := 55) (ls' := [some (.ref 381), some (.int i1), some (.int i2), some (.int i3), some (.int i4)]) (st' := [.int 6, .int i4]) (h' := h) (P := True) 2 rfl rfl trivial ?_
  refine wp_br (P := True) (c := 6 ≤ i4) (t := 66) (st' := []) rfl rfl trivial (fun c1 => ?_) (fun c1 => ?_)
  · have c1 := Int32.not_lt.mpr c1
    have H := H.2 c1
    refine wp_steps (i' := 72) (ls' := [some (.ref 381), some (.int i1), some (.int i2), some (.int i3), some (.int i4)]) (st' := [.int (i2 / 2), .int 2, .int i3, .ref 381]) (h' := h) (P := (¬ (2 : Int32) = 0) ∧ True) 6 rfl rfl ⟨(by decide), trivial⟩ ?_
    obtain ⟨o2, H⟩ := H
    refine wp_call (b := false) (y' := 199) (as := [.ref 381, .int i3, .int 2, .int (i2 / 2)]) (rest := []) (P := ((mxT 381).1 = mxRc 199 ∧ mxG h)) rfl (by with_unfolding_all rfl) ⟨(congrArg Prod.fst sT_381), G⟩ (Nat.le_of_ble_eq_true rfl) (sp_199 G o2 ?_)
    show mx_wp (d + 2) 255 73 [some (.ref 381), some (.int i1), some (.int i2), some (.int i3), some (.int i4)] [] (W_199 h i3 (2 : Int32) (i2 / 2)) Q
    obtain ⟨h3, e4⟩ : ∃ z9, z9 = W_199 h i3 (2 : Int32) (i2 / 2) := ⟨_, rfl⟩
    rw [← e4]
    have H := H h3 e4
    have K6 : mxK h h3 := e4 ▸ KW_199
    have G5 : mxG h3 := mxK_G K6 G
    refine wp_steps (i' := 81) (ls' := [some (.ref 381), some (.int i1), some (.int i2), some (.int i3), some (.int i4)]) (st' := [.int (i2 - (i2 / 2)), .int 2, .int i1, .ref 381]) (h' := h3) (P := (¬ (2 : Int32) = 0) ∧ True) 8 rfl rfl ⟨(by decide), trivial⟩ ?_
    obtain ⟨o7, H⟩ := H
    refine wp_call (b := false) (y' := 199) (as := [.ref 381, .int i1, .int 2, .int (i2 - (i2 / 2))]) (rest := []) (P := ((mxT 381).1 = mxRc 199 ∧ mxG h3)) rfl (by with_unfolding_all rfl) ⟨(congrArg Prod.fst sT_381), G5⟩ (Nat.le_of_ble_eq_true rfl) (sp_199 G5 o7 ?_)
    show mx_wp (d + 2) 255 82 [some (.ref 381), some (.int i1), some (.int i2), some (.int i3), some (.int i4)] [] (W_199 h3 i1 (2 : Int32) (i2 - (i2 / 2))) Q
    obtain ⟨h8, e9⟩ : ∃ z9, z9 = W_199 h3 i1 (2 : Int32) (i2 - (i2 / 2)) := ⟨_, rfl⟩
    rw [← e9]
    have H := H h8 e9
    have K11 : mxK h3 h8 := e9 ▸ KW_199
    have G10 : mxG h8 := mxK_G K11 G5
    refine wp_steps (i' := 90) (ls' := [some (.ref 381), some (.int i1), some (.int i2), some (.int i3), some (.int i4)]) (st' := []) (h' := mx_wi h8 382 4 ((mx_i h8 382 4) + 1)) (P := ((mxT 381).1 = 11 ∧ mxG h8) ∧ (((mxT 382).1 = 50 ∧ mxG h8) ∧ vp_in 4 (mxT 382).2) ∧ (((mxT 382).1 = 50 ∧ mxG h8) ∧ vp_in 4 (mxT 382).2) ∧ True) 8 rfl rfl ⟨⟨(congrArg Prod.fst sT_381), G10⟩, (cA sT_382 G10 (vpl rfl)), (cA sT_382 G10 (vpl rfl)), trivial⟩ ?_
    obtain ⟨h12, e13⟩ : ∃ z9, z9 = mx_wi h8 382 4 ((mx_i h8 382 4) + 1) := ⟨_, rfl⟩
    rw [← e13]
    have H := H h12 e13
    have G14 : mxG h12 := e13 ▸ mxG_wi G10
    refine wp_steps (i' := 91) (ls' := [some (.ref 381), some (.int i1), some (.int i2), some (.int i3), some (.int i4)]) (st' := [.int i3]) (h' := h12) (P := True) 1 rfl rfl trivial ?_
    exact wp_end (o := .inl (some (.int i3))) (h' := h12) (P := True) rfl rfl trivial H
  · have c1 := Int32.not_le.mp c1
    have H := H.1 c1
    refine wp_steps (i' := 62) (ls' := [some (.ref 381), some (.int i1), some (.int i2), some (.int i3), some (.int i4)]) (st' := [.int i4, .int i1, .ref 381, .int i4, .int i3, .ref 381]) (h' := h) (P := True) 6 rfl rfl trivial ?_
    obtain ⟨o15, H⟩ := H
    refine wp_call (b := false) (y' := 198) (as := [.ref 381, .int i1, .int i4]) (rest := [.int i4, .int i3, .ref 381]) (P := ((mxT 381).1 = mxRc 198 ∧ mxG h)) rfl (by with_unfolding_all rfl) ⟨(congrArg Prod.fst sT_381), G⟩ (Nat.le_of_ble_eq_true rfl) (sp_198 G o15 ?_)
    show mx_wp (d + 2) 255 63 [some (.ref 381), some (.int i1), some (.int i2), some (.int i3), some (.int i4)] [.int (V_198 (mx_i h 382) i1 i4), .int i4, .int i3, .ref 381] h Q
    obtain ⟨o16, H⟩ := H
    refine wp_call (b := false) (y' := 199) (as := [.ref 381, .int i3, .int i4, .int (V_198 (mx_i h 382) i1 i4)]) (rest := []) (P := ((mxT 381).1 = mxRc 199 ∧ mxG h)) rfl (by with_unfolding_all rfl) ⟨(congrArg Prod.fst sT_381), G⟩ (Nat.le_of_ble_eq_true rfl) (sp_199 G o16 ?_)
    show mx_wp (d + 2) 255 64 [some (.ref 381), some (.int i1), some (.int i2), some (.int i3), some (.int i4)] [] (W_199 h i3 i4 (V_198 (mx_i h 382) i1 i4)) Q
    obtain ⟨h17, e18⟩ : ∃ z9, z9 = W_199 h i3 i4 (V_198 (mx_i h 382) i1 i4) := ⟨_, rfl⟩
    rw [← e18]
    have H := H h17 e18
    have K20 : mxK h h17 := e18 ▸ KW_199
    have G19 : mxG h17 := mxK_G K20 G
    refine wp_steps (i' := 65) (ls' := [some (.ref 381), some (.int i1), some (.int i2), some (.int i3), some (.int (i4 + 1))]) (st' := []) (h' := h17) (P := True) 1 rfl rfl trivial ?_
    refine wp_J (j := 53) (st' := []) rfl rfl ?_
    exact H 
def F_255_53 (i1 : Int32) (i2 : Int32) (i3 : Int32) (z : Nat) (s : mxH) : mxH := (W_199 s i3 (nI z) (V_198 (mx_i s 382) i1 (nI z)))
theorem K_255_53 {i1 : Int32} {i2 : Int32} {i3 : Int32} (z : Nat) (s : mxH) : mxK s ((F_255_53 i1 i2 i3) z s) := by
  unfold F_255_53
  (try simp only []); repeat' (first | with_reducible exact mxK_rfl | with_reducible exact mxK_wi | with_reducible exact mxK_wrow | with_reducible refine mxK_ite ?_ ?_ | with_reducible refine mxK_tr ?_ mxK_wi | with_reducible refine mxK_tr ?_ mxK_wrow | with_reducible exact KW_199 | with_reducible refine mxK_tr ?_ KW_199)
theorem lp_255_53 {d : Nat} {Q : mxO → mxH → Prop} {i1 : Int32} {i2 : Int32} {i3 : Int32} {s0 : mxH} {n : Nat} (z0 : Nat) (G : mxG s0)  (hB : ∀ z, z0 ≤ z → z ≤ n → (6 : Int32) = nI n) (hn : n < 2147483648) (hz : z0 ≤ n) (ob : ∀ z, z0 ≤ z → z < n → (vp_in ((69 + (6 * i1)) + (nI z)) 769 ∧ (vp_in ((69 + (6 * i3)) + (nI z)) 769 ∧ True))) (k : (vp_in ((69 + (6 * i3)) + (2 : Int32)) 769 ∧ (∀ h3, h3 = W_199 (fz (F_255_53 i1 i2 i3) z0 n s0) i3 (2 : Int32) (i2 / 2) → (vp_in ((69 + (6 * i1)) + (2 : Int32)) 769 ∧ (∀ h8, h8 = W_199 h3 i1 (2 : Int32) (i2 - (i2 / 2)) → (∀ h12, h12 = mx_wi h8 382 4 ((mx_i h8 382 4) + 1) → Q (.inl (some (.int i3))) h12)))))) : H_255_53 (d + 2) s0 i1 i2 i3 (nI z0) Q := by
  have L : ∀ (j z : Nat), z0 ≤ z → z + j = n → H_255_53 (d + 2) (fz (F_255_53 i1 i2 i3) z0 z s0) i1 i2 i3 (nI z) Q := by
    intro j
    induction j with
    | zero =>
      intro z hz0 hzn
      have hzn : z = n := by omega
      subst hzn
      have Gz : mxG (fz (F_255_53 i1 i2 i3) z0 z s0) := mxK_G (mxK_fz (g := fun s => s) (fun z s => K_255_53 z s) z0 z s0) G
      have hBz := hB z hz0 (by omega)
      refine tr_255_53 Gz  ⟨fun c9 => absurd (hBz ▸ c9) Int32.lt_irrefl, fun c9 => k⟩
    | succ j ih =>
      intro z hz0 hzn
      have hih := ih (z + 1) (by omega) (by omega)
      rw [nI_succ, fz_s hz0] at hih
      have Gz : mxG (fz (F_255_53 i1 i2 i3) z0 z s0) := mxK_G (mxK_fz (g := fun s => s) (fun z s => K_255_53 z s) z0 z s0) G
      have hBz := hB z hz0 (by omega)
      have hob := ob z hz0 (by omega)
      refine tr_255_53 Gz  ⟨fun c9 => ?_, fun c9 => absurd (hBz.symm ▸ nI_lt (by omega) hn) c9⟩
      obtain ⟨q0, hob⟩ := hob
      refine ⟨q0, ?_⟩
      obtain ⟨q0, hob⟩ := hob
      refine ⟨q0, ?_⟩
      intro h17 eh17
      subst eh17
      exact hih
  have L0 := L (n - z0) z0 (Nat.le_refl _) (by omega)
  simp only [fz_0] at L0
  exact L0
/-! 256: StoneBacksModel.pass(II)I -/
set_option maxRecDepth 8000 in
theorem tr_256_0 {d : Nat} {h : mxH} {Q : mxO → mxH → Prop} {i1 : Int32} {i2 : Int32} (G : mxG h)  (H : (((V_191 (mx_i h 382) i1 (0 : Int32) ((mx_i h 382 4) - 1)) = 0 ∨ (V_191 (mx_i h 382) i1 (0 : Int32) ((mx_i h 382 4) - 1)) = 1) ∧ ((((V_201 (mx_i h 382) i1) = 0 → True) ∧ (¬ (V_201 (mx_i h 382) i1) = 0 → (((V_191 (mx_i h 382) i2 (0 : Int32) ((mx_i h 382 3) - 1)) = 0 ∨ (V_191 (mx_i h 382) i2 (0 : Int32) ((mx_i h 382 3) - 1)) = 1) ∧ True))) ∧ (∀ (v2 : Int32), v2 = ((if (V_201 (mx_i h 382) i1) = 0 then 1 else (if (V_200 (mx_i h 382) i2) = 0 then 1 else 0)) : Int32) → (∀ h3, h3 = mx_wi h 381 0 v2 → ((0 < (mx_i h3 381 0) → Q (.inl (some (.int 0))) h3) ∧ (¬ 0 < (mx_i h3 381 0) → (vp_in ((69 + (6 * i1)) + (3 : Int32)) 769 ∧ (∀ (v8 : Int32), v8 = ((if (V_198 (mx_i h3 382) i1 (3 : Int32)) = 0 then 1 else 0) : Int32) → (vp_in ((69 + (6 * i1)) + (4 : Int32)) 769 ∧ (((v8 = 0 → ((v8 = 0 → True) ∧ (¬ v8 = 0 → (vp_in ((33 + (6 * i2)) + (2 : Int32)) 769 ∧ (vp_in ((33 + (6 * (V_198 (mx_i h3 382) i1 (4 : Int32)))) + (2 : Int32)) 769 ∧ True))))) ∧ (¬ v8 = 0 → (((V_198 (mx_i h3 382) i1 (4 : Int32)) = i2 → True) ∧ (¬ (V_198 (mx_i h3 382) i1 (4 : Int32)) = i2 → ((v8 = 0 → True) ∧ (¬ v8 = 0 → (vp_in ((33 + (6 * i2)) + (2 : Int32)) 769 ∧ (vp_in ((33 + (6 * (V_198 (mx_i h3 382) i1 (4 : Int32)))) + (2 : Int32)) 769 ∧ True)))))))) ∧ (∀ (v10 : Int32), v10 = ((if v8 = 0 then (if v8 = 0 then 3 else (if (V_196 (mx_i h3 382) i2 (2 : Int32)) = (V_196 (mx_i h3 382) (V_198 (mx_i h3 382) i1 (4 : Int32)) (2 : Int32)) then 0 else 3)) else (if (V_198 (mx_i h3 382) i1 (4 : Int32)) = i2 then 2 else (if v8 = 0 then 3 else (if (V_196 (mx_i h3 382) i2 (2 : Int32)) = (V_196 (mx_i h3 382) (V_198 (mx_i h3 382) i1 (4 : Int32)) (2 : Int32)) then 0 else 3)))) : Int32) → (∀ h11, h11 = mx_wi h3 381 0 v10 → ((0 < (mx_i h11 381 0) → Q (.inl (some (.int 0))) h11) ∧ (¬ 0 < (mx_i h11 381 0) → (cB (mx_i h11 381 6) 12 ∧ (∀ (h17 : mxH), rmM h11 h17 → (vp_in ((69 + (6 * i1)) + (2 : Int32)) 769 ∧ (∀ h21, h21 = mx_wrow h17 382 (mLog (mx_i h17 382) i1 (3 : Int32) (V_198 (mx_i h17 382) i1 (2 : Int32))) → (∀ h25, h25 = W_199 h21 i1 (4 : Int32) i2 → Q (.inl (some (.int (V_198 (mx_i h3 382) i1 (4 : Int32))))) h25)))))))))))))))))))) : mx_wp (d + 2) 256 0 (mx_fr 256 [.ref 381, .int i1, .int i2]) [] h Q := by
  show mx_wp (d + 2) 256 0 [some (.ref 381), some (.int i1), some (.int i2), none, none] [] h Q
  refine wp_steps (i' := 3) (ls' := [some (.ref 381), some (.int i1), some (.int i2), none, none]) (st' := [.int i1, .ref 381, .ref 381]) (h' := h) (P := True) 3 rfl rfl trivial ?_
  obtain ⟨o1, H⟩ := H
  refine wp_call (b := false) (y' := 201) (as := [.ref 381, .int i1]) (rest := [.ref 381]) (P := ((mxT 381).1 = mxRc 201 ∧ mxG h)) rfl (by with_unfolding_all rfl) ⟨(congrArg Prod.fst sT_381), G⟩ (Nat.le_of_ble_eq_true rfl) (sp_201 G o1 ?_)
  show mx_wp (d + 2) 256 4 [some (.ref 381), some (.int i1), some (.int i2), none, none] [.int (V_201 (mx_i h 382) i1), .ref 381] h Q
  have J : ∀ (v2 : Int32) (ev2 : v2 = ((if (V_201 (mx_i h 382) i1) = 0 then 1 else (if (V_200 (mx_i h 382) i2) = 0 then 1 else 0)) : Int32)), mx_wp (d + 2) 256 12 [some (.ref 381), some (.int i1), some (.int i2), none, none] [.int v2, .ref 381] h Q := by
    intro v2 ev2
    have H := H.2 v2 ev2
    refine wp_steps (i' := 13) (ls' := [some (.ref 381), some (.int i1), some (.int i2), none, none]) (st' := []) (h' := mx_wi h 381 0 v2) (P := ((mxT 381).1 = 11 ∧ mxG h) ∧ True) 1 rfl rfl ⟨⟨(congrArg Prod.fst sT_381), G⟩, trivial⟩ ?_
    obtain ⟨h3, e4⟩ : ∃ z9, z9 = mx_wi h 381 0 v2 := ⟨_, rfl⟩
    rw [← e4]
    have H := H h3 e4
    have G5 : mxG h3 := e4 ▸ mxG_wi G
    refine wp_steps (i' := 15) (ls' := [some (.ref 381), some (.int i1), some (.int i2), none, none]) (st' := [.int (mx_i h3 381 0)]) (h' := h3) (P := ((mxT 381).1 = 11 ∧ mxG h3) ∧ True) 2 rfl rfl ⟨⟨(congrArg Prod.fst sT_381), G5⟩, trivial⟩ ?_
    refine wp_br (P := True) (c := (mx_i h3 381 0) ≤ 0) (t := 18) (st' := []) rfl rfl trivial (fun c6 => ?_) (fun c6 => ?_)
    · have c6 := Int32.not_lt.mpr c6
      have H := H.2 c6
      refine wp_steps (i' := 21) (ls' := [some (.ref 381), some (.int i1), some (.int i2), none, none]) (st' := [.int 3, .int i1, .ref 381]) (h' := h3) (P := True) 3 rfl rfl trivial ?_
      obtain ⟨o7, H⟩ := H
      refine wp_call (b := false) (y' := 198) (as := [.ref 381, .int i1, .int 3]) (rest := []) (P := ((mxT 381).1 = mxRc 198 ∧ mxG h3)) rfl (by with_unfolding_all rfl) ⟨(congrArg Prod.fst sT_381), G5⟩ (Nat.le_of_ble_eq_true rfl) (sp_198 G5 o7 ?_)
      show mx_wp (d + 2) 256 22 [some (.ref 381), some (.int i1), some (.int i2), none, none] [.int (V_198 (mx_i h3 382) i1 (3 : Int32))] h3 Q
      have J : ∀ (v8 : Int32) (ev8 : v8 = ((if (V_198 (mx_i h3 382) i1 (3 : Int32)) = 0 then 1 else 0) : Int32)), mx_wp (d + 2) 256 26 [some (.ref 381), some (.int i1), some (.int i2), none, none] [.int v8] h3 Q := by
        intro v8 ev8
        have H := H v8 ev8
        refine wp_steps (i' := 30) (ls' := [some (.ref 381), some (.int i1), some (.int i2), some (.int v8), none]) (st' := [.int 4, .int i1, .ref 381]) (h' := h3) (P := True) 4 rfl rfl trivial ?_
        obtain ⟨o9, H⟩ := H
        refine wp_call (b := false) (y' := 198) (as := [.ref 381, .int i1, .int 4]) (rest := []) (P := ((mxT 381).1 = mxRc 198 ∧ mxG h3)) rfl (by with_unfolding_all rfl) ⟨(congrArg Prod.fst sT_381), G5⟩ (Nat.le_of_ble_eq_true rfl) (sp_198 G5 o9 ?_)
        show mx_wp (d + 2) 256 31 [some (.ref 381), some (.int i1), some (.int i2), some (.int v8), none] [.int (V_198 (mx_i h3 382) i1 (4 : Int32))] h3 Q
        refine wp_steps (i' := 34) (ls' := [some (.ref 381), some (.int i1), some (.int i2), some (.int v8), some (.int (V_198 (mx_i h3 382) i1 (4 : Int32)))]) (st' := [.int v8, .ref 381]) (h' := h3) (P := True) 3 rfl rfl trivial ?_
        have J : ∀ (v10 : Int32) (ev10 : v10 = ((if v8 = 0 then (if v8 = 0 then 3 else (if (V_196 (mx_i h3 382) i2 (2 : Int32)) = (V_196 (mx_i h3 382) (V_198 (mx_i h3 382) i1 (4 : Int32)) (2 : Int32)) then 0 else 3)) else (if (V_198 (mx_i h3 382) i1 (4 : Int32)) = i2 then 2 else (if v8 = 0 then 3 else (if (V_196 (mx_i h3 382) i2 (2 : Int32)) = (V_196 (mx_i h3 382) (V_198 (mx_i h3 382) i1 (4 : Int32)) (2 : Int32)) then 0 else 3)))) : Int32)), mx_wp (d + 2) 256 54 [some (.ref 381), some (.int i1), some (.int i2), some (.int v8), some (.int (V_198 (mx_i h3 382) i1 (4 : Int32)))] [.int v10, .ref 381] h3 Q := by
          intro v10 ev10
          have H := H.2 v10 ev10
          refine wp_steps (i' := 55) (ls' := [some (.ref 381), some (.int i1), some (.int i2), some (.int v8), some (.int (V_198 (mx_i h3 382) i1 (4 : Int32)))]) (st' := []) (h' := mx_wi h3 381 0 v10) (P := ((mxT 381).1 = 11 ∧ mxG h3) ∧ True) 1 rfl rfl ⟨⟨(congrArg Prod.fst sT_381), G5⟩, trivial⟩ ?_
          obtain ⟨h11, e12⟩ : ∃ z9, z9 = mx_wi h3 381 0 v10 := ⟨_, rfl⟩
          rw [← e12]
          have H := H h11 e12
          have G13 : mxG h11 := e12 ▸ mxG_wi G5
          refine wp_steps (i' := 57) (ls' := [some (.ref 381), some (.int i1), some (.int i2), some (.int v8), some (.int (V_198 (mx_i h3 382) i1 (4 : Int32)))]) (st' := [.int (mx_i h11 381 0)]) (h' := h11) (P := ((mxT 381).1 = 11 ∧ mxG h11) ∧ True) 2 rfl rfl ⟨⟨(congrArg Prod.fst sT_381), G13⟩, trivial⟩ ?_
          refine wp_br (P := True) (c := (mx_i h11 381 0) ≤ 0) (t := 60) (st' := []) rfl rfl trivial (fun c14 => ?_) (fun c14 => ?_)
          · have c14 := Int32.not_lt.mpr c14
            have H := H.2 c14
            refine wp_steps (i' := 61) (ls' := [some (.ref 381), some (.int i1), some (.int i2), some (.int v8), some (.int (V_198 (mx_i h3 382) i1 (4 : Int32)))]) (st' := [.ref 381]) (h' := h11) (P := True) 1 rfl rfl trivial ?_
            obtain ⟨o15, H⟩ := H
            refine wp_call (b := false) (y' := 250) (as := [.ref 381]) (rest := []) (P := ((mxT 381).1 = mxRc 250 ∧ mxG h11)) rfl (by with_unfolding_all rfl) ⟨(congrArg Prod.fst sT_381), G13⟩ (Nat.le_of_ble_eq_true rfl) (sp_250 G13 o15 ?_)
            intro h17 p18
            show mx_wp (d + 2) 256 62 [some (.ref 381), some (.int i1), some (.int i2), some (.int v8), some (.int (V_198 (mx_i h3 382) i1 (4 : Int32)))] [] h17 Q
            have H := H h17 p18
            have G19 : mxG h17 := mxU_G p18.1 G13
            refine wp_steps (i' := 68) (ls' := [some (.ref 381), some (.int i1), some (.int i2), some (.int v8), some (.int (V_198 (mx_i h3 382) i1 (4 : Int32)))]) (st' := [.int 2, .int i1, .ref 381, .int 3, .int i1, .ref 381]) (h' := h17) (P := True) 6 rfl rfl trivial ?_
            obtain ⟨o20, H⟩ := H
            refine wp_call (b := false) (y' := 198) (as := [.ref 381, .int i1, .int 2]) (rest := [.int 3, .int i1, .ref 381]) (P := ((mxT 381).1 = mxRc 198 ∧ mxG h17)) rfl (by with_unfolding_all rfl) ⟨(congrArg Prod.fst sT_381), G19⟩ (Nat.le_of_ble_eq_true rfl) (sp_198 G19 o20 ?_)
            show mx_wp (d + 2) 256 69 [some (.ref 381), some (.int i1), some (.int i2), some (.int v8), some (.int (V_198 (mx_i h3 382) i1 (4 : Int32)))] [.int (V_198 (mx_i h17 382) i1 (2 : Int32)), .int 3, .int i1, .ref 381] h17 Q
            refine wp_call (b := false) (y' := 251) (as := [.ref 381, .int i1, .int 3, .int (V_198 (mx_i h17 382) i1 (2 : Int32))]) (rest := []) (P := ((mxT 381).1 = mxRc 251 ∧ mxG h17)) rfl (by with_unfolding_all rfl) ⟨(congrArg Prod.fst sT_381), G19⟩ (Nat.le_of_ble_eq_true rfl) (sp_251 G19 ?_)
            show mx_wp (d + 2) 256 70 [some (.ref 381), some (.int i1), some (.int i2), some (.int v8), some (.int (V_198 (mx_i h3 382) i1 (4 : Int32)))] [] (mx_wrow h17 382 (mLog (mx_i h17 382) i1 (3 : Int32) (V_198 (mx_i h17 382) i1 (2 : Int32)))) Q
            obtain ⟨h21, e22⟩ : ∃ z9, z9 = mx_wrow h17 382 (mLog (mx_i h17 382) i1 (3 : Int32) (V_198 (mx_i h17 382) i1 (2 : Int32))) := ⟨_, rfl⟩
            rw [← e22]
            have H := H h21 e22
            have K24 : mxK h17 h21 := e22 ▸ mxK_wrow
            have G23 : mxG h21 := mxK_G K24 G19
            refine wp_steps (i' := 74) (ls' := [some (.ref 381), some (.int i1), some (.int i2), some (.int v8), some (.int (V_198 (mx_i h3 382) i1 (4 : Int32)))]) (st' := [.int i2, .int 4, .int i1, .ref 381]) (h' := h21) (P := True) 4 rfl rfl trivial ?_
            refine wp_call (b := false) (y' := 199) (as := [.ref 381, .int i1, .int 4, .int i2]) (rest := []) (P := ((mxT 381).1 = mxRc 199 ∧ mxG h21)) rfl (by with_unfolding_all rfl) ⟨(congrArg Prod.fst sT_381), G23⟩ (Nat.le_of_ble_eq_true rfl) (sp_199 G23 o9 ?_)
            show mx_wp (d + 2) 256 75 [some (.ref 381), some (.int i1), some (.int i2), some (.int v8), some (.int (V_198 (mx_i h3 382) i1 (4 : Int32)))] [] (W_199 h21 i1 (4 : Int32) i2) Q
            obtain ⟨h25, e26⟩ : ∃ z9, z9 = W_199 h21 i1 (4 : Int32) i2 := ⟨_, rfl⟩
            rw [← e26]
            have H := H h25 e26
            have K28 : mxK h21 h25 := e26 ▸ KW_199
            have G27 : mxG h25 := mxK_G K28 G23
            refine wp_steps (i' := 76) (ls' := [some (.ref 381), some (.int i1), some (.int i2), some (.int v8), some (.int (V_198 (mx_i h3 382) i1 (4 : Int32)))]) (st' := [.int (V_198 (mx_i h3 382) i1 (4 : Int32))]) (h' := h25) (P := True) 1 rfl rfl trivial ?_
            exact wp_end (o := .inl (some (.int (V_198 (mx_i h3 382) i1 (4 : Int32))))) (h' := h25) (P := True) rfl rfl trivial H
          · have c14 := Int32.not_le.mp c14
            have H := H.1 c14
            refine wp_steps (i' := 59) (ls' := [some (.ref 381), some (.int i1), some (.int i2), some (.int v8), some (.int (V_198 (mx_i h3 382) i1 (4 : Int32)))]) (st' := [.int 0]) (h' := h11) (P := True) 1 rfl rfl trivial ?_
            exact wp_end (o := .inl (some (.int 0))) (h' := h11) (P := True) rfl rfl trivial H
        have H := H.1
        refine wp_br (P := True) (c := v8 = 0) (t := 40) (st' := [.ref 381]) rfl rfl trivial (fun c29 => ?_) (fun c29 => ?_)
        · skip
          have H := H.1 c29
          refine wp_steps (i' := 41) (ls' := [some (.ref 381), some (.int i1), some (.int i2), some (.int v8), some (.int (V_198 (mx_i h3 382) i1 (4 : Int32)))]) (st' := [.int v8, .ref 381]) (h' := h3) (P := True) 1 rfl rfl trivial ?_
          refine wp_br (P := True) (c := v8 = 0) (t := 51) (st' := [.ref 381]) rfl rfl trivial (fun c30 => ?_) (fun c30 => ?_)
          · skip
            refine wp_steps (i' := 52) (ls' := [some (.ref 381), some (.int i1), some (.int i2), some (.int v8), some (.int (V_198 (mx_i h3 382) i1 (4 : Int32)))]) (st' := [.int 3, .ref 381]) (h' := h3) (P := True) 1 rfl rfl trivial ?_
            refine wp_J (j := 54) (st' := [.int 3, .ref 381]) rfl rfl ?_
            exact J _ (by rw [if_pos c29, if_pos c30])
          · skip
            have H := H.2 c30
            refine wp_steps (i' := 45) (ls' := [some (.ref 381), some (.int i1), some (.int i2), some (.int v8), some (.int (V_198 (mx_i h3 382) i1 (4 : Int32)))]) (st' := [.int 2, .int i2, .ref 381, .ref 381]) (h' := h3) (P := True) 3 rfl rfl trivial ?_
            obtain ⟨o31, H⟩ := H
            refine wp_call (b := false) (y' := 196) (as := [.ref 381, .int i2, .int 2]) (rest := [.ref 381]) (P := ((mxT 381).1 = mxRc 196 ∧ mxG h3)) rfl (by with_unfolding_all rfl) ⟨(congrArg Prod.fst sT_381), G5⟩ (Nat.le_of_ble_eq_true rfl) (sp_196 G5 o31 ?_)
            show mx_wp (d + 2) 256 46 [some (.ref 381), some (.int i1), some (.int i2), some (.int v8), some (.int (V_198 (mx_i h3 382) i1 (4 : Int32)))] [.int (V_196 (mx_i h3 382) i2 (2 : Int32)), .ref 381] h3 Q
            refine wp_steps (i' := 49) (ls' := [some (.ref 381), some (.int i1), some (.int i2), some (.int v8), some (.int (V_198 (mx_i h3 382) i1 (4 : Int32)))]) (st' := [.int 2, .int (V_198 (mx_i h3 382) i1 (4 : Int32)), .ref 381, .int (V_196 (mx_i h3 382) i2 (2 : Int32)), .ref 381]) (h' := h3) (P := True) 3 rfl rfl trivial ?_
            obtain ⟨o32, H⟩ := H
            refine wp_call (b := false) (y' := 196) (as := [.ref 381, .int (V_198 (mx_i h3 382) i1 (4 : Int32)), .int 2]) (rest := [.int (V_196 (mx_i h3 382) i2 (2 : Int32)), .ref 381]) (P := ((mxT 381).1 = mxRc 196 ∧ mxG h3)) rfl (by with_unfolding_all rfl) ⟨(congrArg Prod.fst sT_381), G5⟩ (Nat.le_of_ble_eq_true rfl) (sp_196 G5 o32 ?_)
            show mx_wp (d + 2) 256 50 [some (.ref 381), some (.int i1), some (.int i2), some (.int v8), some (.int (V_198 (mx_i h3 382) i1 (4 : Int32)))] [.int (V_196 (mx_i h3 382) (V_198 (mx_i h3 382) i1 (4 : Int32)) (2 : Int32)), .int (V_196 (mx_i h3 382) i2 (2 : Int32)), .ref 381] h3 Q
            refine wp_br (P := True) (c := (V_196 (mx_i h3 382) i2 (2 : Int32)) = (V_196 (mx_i h3 382) (V_198 (mx_i h3 382) i1 (4 : Int32)) (2 : Int32))) (t := 53) (st' := [.ref 381]) rfl rfl trivial (fun c33 => ?_) (fun c33 => ?_)
            · skip
              refine wp_steps (i' := 54) (ls' := [some (.ref 381), some (.int i1), some (.int i2), some (.int v8), some (.int (V_198 (mx_i h3 382) i1 (4 : Int32)))]) (st' := [.int 0, .ref 381]) (h' := h3) (P := True) 1 rfl rfl trivial ?_
              exact J _ (by rw [if_pos c29, if_neg c30, if_pos c33])
            · skip
              refine wp_steps (i' := 52) (ls' := [some (.ref 381), some (.int i1), some (.int i2), some (.int v8), some (.int (V_198 (mx_i h3 382) i1 (4 : Int32)))]) (st' := [.int 3, .ref 381]) (h' := h3) (P := True) 1 rfl rfl trivial ?_
              refine wp_J (j := 54) (st' := [.int 3, .ref 381]) rfl rfl ?_
              exact J _ (by rw [if_pos c29, if_neg c30, if_neg c33])
        · skip
          have H := H.2 c29
          refine wp_steps (i' := 37) (ls' := [some (.ref 381), some (.int i1), some (.int i2), some (.int v8), some (.int (V_198 (mx_i h3 382) i1 (4 : Int32)))]) (st' := [.int i2, .int (V_198 (mx_i h3 382) i1 (4 : Int32)), .ref 381]) (h' := h3) (P := True) 2 rfl rfl trivial ?_
          refine wp_br (P := True) (c := ¬ (V_198 (mx_i h3 382) i1 (4 : Int32)) = i2) (t := 40) (st' := [.ref 381]) rfl rfl trivial (fun c34 => ?_) (fun c34 => ?_)
          · skip
            have H := H.2 c34
            refine wp_steps (i' := 41) (ls' := [some (.ref 381), some (.int i1), some (.int i2), some (.int v8), some (.int (V_198 (mx_i h3 382) i1 (4 : Int32)))]) (st' := [.int v8, .ref 381]) (h' := h3) (P := True) 1 rfl rfl trivial ?_
            refine wp_br (P := True) (c := v8 = 0) (t := 51) (st' := [.ref 381]) rfl rfl trivial (fun c35 => ?_) (fun c35 => ?_)
            · skip
              refine wp_steps (i' := 52) (ls' := [some (.ref 381), some (.int i1), some (.int i2), some (.int v8), some (.int (V_198 (mx_i h3 382) i1 (4 : Int32)))]) (st' := [.int 3, .ref 381]) (h' := h3) (P := True) 1 rfl rfl trivial ?_
              refine wp_J (j := 54) (st' := [.int 3, .ref 381]) rfl rfl ?_
              exact J _ (by rw [if_neg c29, if_neg c34, if_pos c35])
            · skip
              have H := H.2 c35
              refine wp_steps (i' := 45) (ls' := [some (.ref 381), some (.int i1), some (.int i2), some (.int v8), some (.int (V_198 (mx_i h3 382) i1 (4 : Int32)))]) (st' := [.int 2, .int i2, .ref 381, .ref 381]) (h' := h3) (P := True) 3 rfl rfl trivial ?_
              obtain ⟨o36, H⟩ := H
              refine wp_call (b := false) (y' := 196) (as := [.ref 381, .int i2, .int 2]) (rest := [.ref 381]) (P := ((mxT 381).1 = mxRc 196 ∧ mxG h3)) rfl (by with_unfolding_all rfl) ⟨(congrArg Prod.fst sT_381), G5⟩ (Nat.le_of_ble_eq_true rfl) (sp_196 G5 o36 ?_)
              show mx_wp (d + 2) 256 46 [some (.ref 381), some (.int i1), some (.int i2), some (.int v8), some (.int (V_198 (mx_i h3 382) i1 (4 : Int32)))] [.int (V_196 (mx_i h3 382) i2 (2 : Int32)), .ref 381] h3 Q
              refine wp_steps (i' := 49) (ls' := [some (.ref 381), some (.int i1), some (.int i2), some (.int v8), some (.int (V_198 (mx_i h3 382) i1 (4 : Int32)))]) (st' := [.int 2, .int (V_198 (mx_i h3 382) i1 (4 : Int32)), .ref 381, .int (V_196 (mx_i h3 382) i2 (2 : Int32)), .ref 381]) (h' := h3) (P := True) 3 rfl rfl trivial ?_
              obtain ⟨o37, H⟩ := H
              refine wp_call (b := false) (y' := 196) (as := [.ref 381, .int (V_198 (mx_i h3 382) i1 (4 : Int32)), .int 2]) (rest := [.int (V_196 (mx_i h3 382) i2 (2 : Int32)), .ref 381]) (P := ((mxT 381).1 = mxRc 196 ∧ mxG h3)) rfl (by with_unfolding_all rfl) ⟨(congrArg Prod.fst sT_381), G5⟩ (Nat.le_of_ble_eq_true rfl) (sp_196 G5 o37 ?_)
              show mx_wp (d + 2) 256 50 [some (.ref 381), some (.int i1), some (.int i2), some (.int v8), some (.int (V_198 (mx_i h3 382) i1 (4 : Int32)))] [.int (V_196 (mx_i h3 382) (V_198 (mx_i h3 382) i1 (4 : Int32)) (2 : Int32)), .int (V_196 (mx_i h3 382) i2 (2 : Int32)), .ref 381] h3 Q
              refine wp_br (P := True) (c := (V_196 (mx_i h3 382) i2 (2 : Int32)) = (V_196 (mx_i h3 382) (V_198 (mx_i h3 382) i1 (4 : Int32)) (2 : Int32))) (t := 53) (st' := [.ref 381]) rfl rfl trivial (fun c38 => ?_) (fun c38 => ?_)
              · skip
                refine wp_steps (i' := 54) (ls' := [some (.ref 381), some (.int i1), some (.int i2), some (.int v8), some (.int (V_198 (mx_i h3 382) i1 (4 : Int32)))]) (st' := [.int 0, .ref 381]) (h' := h3) (P := True) 1 rfl rfl trivial ?_
                exact J _ (by rw [if_neg c29, if_neg c34, if_neg c35, if_pos c38])
              · skip
                refine wp_steps (i' := 52) (ls' := [some (.ref 381), some (.int i1), some (.int i2), some (.int v8), some (.int (V_198 (mx_i h3 382) i1 (4 : Int32)))]) (st' := [.int 3, .ref 381]) (h' := h3) (P := True) 1 rfl rfl trivial ?_
                refine wp_J (j := 54) (st' := [.int 3, .ref 381]) rfl rfl ?_
                exact J _ (by rw [if_neg c29, if_neg c34, if_neg c35, if_neg c38])
          · have c34 := Decidable.of_not_not c34
            refine wp_steps (i' := 39) (ls' := [some (.ref 381), some (.int i1), some (.int i2), some (.int v8), some (.int (V_198 (mx_i h3 382) i1 (4 : Int32)))]) (st' := [.int 2, .ref 381]) (h' := h3) (P := True) 1 rfl rfl trivial ?_
            refine wp_J (j := 54) (st' := [.int 2, .ref 381]) rfl rfl ?_
            exact J _ (by rw [if_neg c29, if_pos c34])
      refine wp_br (P := True) (c := ¬ (V_198 (mx_i h3 382) i1 (3 : Int32)) = 0) (t := 25) (st' := []) rfl rfl trivial (fun c39 => ?_) (fun c39 => ?_)
      · skip
        refine wp_steps (i' := 26) (ls' := [some (.ref 381), some (.int i1), some (.int i2), none, none]) (st' := [.int 0]) (h' := h3) (P := True) 1 rfl rfl trivial ?_
        exact J _ (by rw [if_neg c39])
      · have c39 := Decidable.of_not_not c39
        refine wp_steps (i' := 24) (ls' := [some (.ref 381), some (.int i1), some (.int i2), none, none]) (st' := [.int 1]) (h' := h3) (P := True) 1 rfl rfl trivial ?_
        refine wp_J (j := 26) (st' := [.int 1]) rfl rfl ?_
        exact J _ (by rw [if_pos c39])
    · have c6 := Int32.not_le.mp c6
      have H := H.1 c6
      refine wp_steps (i' := 17) (ls' := [some (.ref 381), some (.int i1), some (.int i2), none, none]) (st' := [.int 0]) (h' := h3) (P := True) 1 rfl rfl trivial ?_
      exact wp_end (o := .inl (some (.int 0))) (h' := h3) (P := True) rfl rfl trivial H
  have H := H.1
  refine wp_br (P := True) (c := (V_201 (mx_i h 382) i1) = 0) (t := 9) (st' := [.ref 381]) rfl rfl trivial (fun c40 => ?_) (fun c40 => ?_)
  · skip
    refine wp_steps (i' := 10) (ls' := [some (.ref 381), some (.int i1), some (.int i2), none, none]) (st' := [.int 1, .ref 381]) (h' := h) (P := True) 1 rfl rfl trivial ?_
    refine wp_J (j := 12) (st' := [.int 1, .ref 381]) rfl rfl ?_
    exact J _ (by rw [if_pos c40])
  · skip
    have H := H.2 c40
    refine wp_steps (i' := 7) (ls' := [some (.ref 381), some (.int i1), some (.int i2), none, none]) (st' := [.int i2, .ref 381, .ref 381]) (h' := h) (P := True) 2 rfl rfl trivial ?_
    obtain ⟨o41, H⟩ := H
    refine wp_call (b := false) (y' := 200) (as := [.ref 381, .int i2]) (rest := [.ref 381]) (P := ((mxT 381).1 = mxRc 200 ∧ mxG h)) rfl (by with_unfolding_all rfl) ⟨(congrArg Prod.fst sT_381), G⟩ (Nat.le_of_ble_eq_true rfl) (sp_200 G o41 ?_)
    show mx_wp (d + 2) 256 8 [some (.ref 381), some (.int i1), some (.int i2), none, none] [.int (V_200 (mx_i h 382) i2), .ref 381] h Q
    refine wp_br (P := True) (c := ¬ (V_200 (mx_i h 382) i2) = 0) (t := 11) (st' := [.ref 381]) rfl rfl trivial (fun c42 => ?_) (fun c42 => ?_)
    · skip
      refine wp_steps (i' := 12) (ls' := [some (.ref 381), some (.int i1), some (.int i2), none, none]) (st' := [.int 0, .ref 381]) (h' := h) (P := True) 1 rfl rfl trivial ?_
      exact J _ (by rw [if_neg c40, if_neg c42])
    · have c42 := Decidable.of_not_not c42
      refine wp_steps (i' := 10) (ls' := [some (.ref 381), some (.int i1), some (.int i2), none, none]) (st' := [.int 1, .ref 381]) (h' := h) (P := True) 1 rfl rfl trivial ?_
      refine wp_J (j := 12) (st' := [.int 1, .ref 381]) rfl rfl ?_
      exact J _ (by rw [if_neg c40, if_pos c42])
/-! 257: StoneBacksModel.lay(I)I -/
set_option maxRecDepth 8000 in
theorem tr_257_0 {d : Nat} {h : mxH} {Q : mxO → mxH → Prop} {i1 : Int32} (G : mxG h)  (H : (((V_191 (mx_i h 382) i1 (0 : Int32) ((mx_i h 382 4) - 1)) = 0 ∨ (V_191 (mx_i h 382) i1 (0 : Int32) ((mx_i h 382 4) - 1)) = 1) ∧ ((((V_201 (mx_i h 382) i1) = 0 → True) ∧ (¬ (V_201 (mx_i h 382) i1) = 0 → (vp_in ((69 + (6 * i1)) + (3 : Int32)) 769 ∧ True))) ∧ (∀ (v2 : Int32), v2 = ((if (V_201 (mx_i h 382) i1) = 0 then 1 else (if (V_198 (mx_i h 382) i1 (3 : Int32)) = 0 then 0 else 2)) : Int32) → (∀ h3, h3 = mx_wi h 381 0 v2 → ((0 < (mx_i h3 381 0) → Q (.inl (some (.int 0))) h3) ∧ (¬ 0 < (mx_i h3 381 0) → (vp_in ((69 + (6 * i1)) + (4 : Int32)) 769 ∧ (vp_in ((33 + (6 * (V_198 (mx_i h3 382) i1 (4 : Int32)))) + (2 : Int32)) 769 ∧ (vp_in (21 + (V_196 (mx_i h3 382) (V_198 (mx_i h3 382) i1 (4 : Int32)) (2 : Int32))) 769 ∧ ((((mx_i h3 382 (21 + (V_196 (mx_i h3 382) (V_198 (mx_i h3 382) i1 (4 : Int32)) (2 : Int32))).toNatClampNeg) = 0 → (vp_in ((69 + (6 * i1)) + (1 : Int32)) 769 ∧ (vp_in ((33 + (6 * (V_198 (mx_i h3 382) i1 (1 : Int32)))) + (2 : Int32)) 769 ∧ True))) ∧ (¬ (mx_i h3 382 (21 + (V_196 (mx_i h3 382) (V_198 (mx_i h3 382) i1 (4 : Int32)) (2 : Int32))).toNatClampNeg) = 0 → True)) ∧ (∀ (v10 : Int32), v10 = ((if (mx_i h3 382 (21 + (V_196 (mx_i h3 382) (V_198 (mx_i h3 382) i1 (4 : Int32)) (2 : Int32))).toNatClampNeg) = 0 then (if (V_196 (mx_i h3 382) (V_198 (mx_i h3 382) i1 (1 : Int32)) (2 : Int32)) = (V_196 (mx_i h3 382) (V_198 (mx_i h3 382) i1 (4 : Int32)) (2 : Int32)) then 0 else 2) else 0) : Int32) → (∀ h11, h11 = mx_wi h3 381 0 v10 → ((0 < (mx_i h11 381 0) → Q (.inl (some (.int 0))) h11) ∧ (¬ 0 < (mx_i h11 381 0) → (cB (mx_i h11 381 6) 12 ∧ (∀ (h17 : mxH), rmM h11 h17 → (vp_in ((69 + (6 * i1)) + (2 : Int32)) 769 ∧ (∀ h21, h21 = mx_wrow h17 382 (mLog (mx_i h17 382) i1 (4 : Int32) (V_198 (mx_i h17 382) i1 (2 : Int32))) → (vp_in ((69 + (6 * i1)) + (3 : Int32)) 769 ∧ (∀ h26, h26 = W_199 h21 i1 (3 : Int32) (1 : Int32) → (vp_in ((69 + (6 * i1)) + (5 : Int32)) 769 ∧ (∀ h31, h31 = W_199 h26 i1 (5 : Int32) (V_196 (mx_i h3 382) (V_198 (mx_i h3 382) i1 (4 : Int32)) (2 : Int32)) → Q (.inl (some (.int (V_196 (mx_i h3 382) (V_198 (mx_i h3 382) i1 (4 : Int32)) (2 : Int32))))) h31))))))))))))))))))))))) : mx_wp (d + 2) 257 0 (mx_fr 257 [.ref 381, .int i1]) [] h Q := by
  show mx_wp (d + 2) 257 0 [some (.ref 381), some (.int i1), none] [] h Q
  refine wp_steps (i' := 3) (ls' := [some (.ref 381), some (.int i1), none]) (st' := [.int i1, .ref 381, .ref 381]) (h' := h) (P := True) 3 rfl rfl trivial ?_
  obtain ⟨o1, H⟩ := H
  refine wp_call (b := false) (y' := 201) (as := [.ref 381, .int i1]) (rest := [.ref 381]) (P := ((mxT 381).1 = mxRc 201 ∧ mxG h)) rfl (by with_unfolding_all rfl) ⟨(congrArg Prod.fst sT_381), G⟩ (Nat.le_of_ble_eq_true rfl) (sp_201 G o1 ?_)
  show mx_wp (d + 2) 257 4 [some (.ref 381), some (.int i1), none] [.int (V_201 (mx_i h 382) i1), .ref 381] h Q
  have J : ∀ (v2 : Int32) (ev2 : v2 = ((if (V_201 (mx_i h 382) i1) = 0 then 1 else (if (V_198 (mx_i h 382) i1 (3 : Int32)) = 0 then 0 else 2)) : Int32)), mx_wp (d + 2) 257 15 [some (.ref 381), some (.int i1), none] [.int v2, .ref 381] h Q := by
    intro v2 ev2
    have H := H.2 v2 ev2
    refine wp_steps (i' := 16) (ls' := [some (.ref 381), some (.int i1), none]) (st' := []) (h' := mx_wi h 381 0 v2) (P := ((mxT 381).1 = 11 ∧ mxG h) ∧ True) 1 rfl rfl ⟨⟨(congrArg Prod.fst sT_381), G⟩, trivial⟩ ?_
    obtain ⟨h3, e4⟩ : ∃ z9, z9 = mx_wi h 381 0 v2 := ⟨_, rfl⟩
    rw [← e4]
    have H := H h3 e4
    have G5 : mxG h3 := e4 ▸ mxG_wi G
    refine wp_steps (i' := 18) (ls' := [some (.ref 381), some (.int i1), none]) (st' := [.int (mx_i h3 381 0)]) (h' := h3) (P := ((mxT 381).1 = 11 ∧ mxG h3) ∧ True) 2 rfl rfl ⟨⟨(congrArg Prod.fst sT_381), G5⟩, trivial⟩ ?_
    refine wp_br (P := True) (c := (mx_i h3 381 0) ≤ 0) (t := 21) (st' := []) rfl rfl trivial (fun c6 => ?_) (fun c6 => ?_)
    · have c6 := Int32.not_lt.mpr c6
      have H := H.2 c6
      refine wp_steps (i' := 25) (ls' := [some (.ref 381), some (.int i1), none]) (st' := [.int 4, .int i1, .ref 381, .ref 381]) (h' := h3) (P := True) 4 rfl rfl trivial ?_
      obtain ⟨o7, H⟩ := H
      refine wp_call (b := false) (y' := 198) (as := [.ref 381, .int i1, .int 4]) (rest := [.ref 381]) (P := ((mxT 381).1 = mxRc 198 ∧ mxG h3)) rfl (by with_unfolding_all rfl) ⟨(congrArg Prod.fst sT_381), G5⟩ (Nat.le_of_ble_eq_true rfl) (sp_198 G5 o7 ?_)
      show mx_wp (d + 2) 257 26 [some (.ref 381), some (.int i1), none] [.int (V_198 (mx_i h3 382) i1 (4 : Int32)), .ref 381] h3 Q
      refine wp_steps (i' := 27) (ls' := [some (.ref 381), some (.int i1), none]) (st' := [.int 2, .int (V_198 (mx_i h3 382) i1 (4 : Int32)), .ref 381]) (h' := h3) (P := True) 1 rfl rfl trivial ?_
      obtain ⟨o8, H⟩ := H
      refine wp_call (b := false) (y' := 196) (as := [.ref 381, .int (V_198 (mx_i h3 382) i1 (4 : Int32)), .int 2]) (rest := []) (P := ((mxT 381).1 = mxRc 196 ∧ mxG h3)) rfl (by with_unfolding_all rfl) ⟨(congrArg Prod.fst sT_381), G5⟩ (Nat.le_of_ble_eq_true rfl) (sp_196 G5 o8 ?_)
      show mx_wp (d + 2) 257 28 [some (.ref 381), some (.int i1), none] [.int (V_196 (mx_i h3 382) (V_198 (mx_i h3 382) i1 (4 : Int32)) (2 : Int32))] h3 Q
      obtain ⟨o9, H⟩ := H
      refine wp_steps (i' := 36) (ls' := [some (.ref 381), some (.int i1), some (.int (V_196 (mx_i h3 382) (V_198 (mx_i h3 382) i1 (4 : Int32)) (2 : Int32)))]) (st' := [.int (mx_i h3 382 (21 + (V_196 (mx_i h3 382) (V_198 (mx_i h3 382) i1 (4 : Int32)) (2 : Int32))).toNatClampNeg), .ref 381]) (h' := h3) (P := ((mxT 381).1 = 11 ∧ mxG h3) ∧ (((mxT 382).1 = 50 ∧ mxG h3) ∧ vp_in (21 + (V_196 (mx_i h3 382) (V_198 (mx_i h3 382) i1 (4 : Int32)) (2 : Int32))) (mxT 382).2) ∧ True) 8 rfl rfl ⟨⟨(congrArg Prod.fst sT_381), G5⟩, (cA sT_382 G5 o9), trivial⟩ ?_
      have J : ∀ (v10 : Int32) (ev10 : v10 = ((if (mx_i h3 382 (21 + (V_196 (mx_i h3 382) (V_198 (mx_i h3 382) i1 (4 : Int32)) (2 : Int32))).toNatClampNeg) = 0 then (if (V_196 (mx_i h3 382) (V_198 (mx_i h3 382) i1 (1 : Int32)) (2 : Int32)) = (V_196 (mx_i h3 382) (V_198 (mx_i h3 382) i1 (4 : Int32)) (2 : Int32)) then 0 else 2) else 0) : Int32)), mx_wp (d + 2) 257 49 [some (.ref 381), some (.int i1), some (.int (V_196 (mx_i h3 382) (V_198 (mx_i h3 382) i1 (4 : Int32)) (2 : Int32)))] [.int v10, .ref 381] h3 Q := by
        intro v10 ev10
        have H := H.2 v10 ev10
        refine wp_steps (i' := 50) (ls' := [some (.ref 381), some (.int i1), some (.int (V_196 (mx_i h3 382) (V_198 (mx_i h3 382) i1 (4 : Int32)) (2 : Int32)))]) (st' := []) (h' := mx_wi h3 381 0 v10) (P := ((mxT 381).1 = 11 ∧ mxG h3) ∧ True) 1 rfl rfl ⟨⟨(congrArg Prod.fst sT_381), G5⟩, trivial⟩ ?_
        obtain ⟨h11, e12⟩ : ∃ z9, z9 = mx_wi h3 381 0 v10 := ⟨_, rfl⟩
        rw [← e12]
        have H := H h11 e12
        have G13 : mxG h11 := e12 ▸ mxG_wi G5
        refine wp_steps (i' := 52) (ls' := [some (.ref 381), some (.int i1), some (.int (V_196 (mx_i h3 382) (V_198 (mx_i h3 382) i1 (4 : Int32)) (2 : Int32)))]) (st' := [.int (mx_i h11 381 0)]) (h' := h11) (P := ((mxT 381).1 = 11 ∧ mxG h11) ∧ True) 2 rfl rfl ⟨⟨(congrArg Prod.fst sT_381), G13⟩, trivial⟩ ?_
        refine wp_br (P := True) (c := (mx_i h11 381 0) ≤ 0) (t := 55) (st' := []) rfl rfl trivial (fun c14 => ?_) (fun c14 => ?_)
        · have c14 := Int32.not_lt.mpr c14
          have H := H.2 c14
          refine wp_steps (i' := 56) (ls' := [some (.ref 381), some (.int i1), some (.int (V_196 (mx_i h3 382) (V_198 (mx_i h3 382) i1 (4 : Int32)) (2 : Int32)))]) (st' := [.ref 381]) (h' := h11) (P := True) 1 rfl rfl trivial ?_
          obtain ⟨o15, H⟩ := H
          refine wp_call (b := false) (y' := 250) (as := [.ref 381]) (rest := []) (P := ((mxT 381).1 = mxRc 250 ∧ mxG h11)) rfl (by with_unfolding_all rfl) ⟨(congrArg Prod.fst sT_381), G13⟩ (Nat.le_of_ble_eq_true rfl) (sp_250 G13 o15 ?_)
          intro h17 p18
          show mx_wp (d + 2) 257 57 [some (.ref 381), some (.int i1), some (.int (V_196 (mx_i h3 382) (V_198 (mx_i h3 382) i1 (4 : Int32)) (2 : Int32)))] [] h17 Q
          have H := H h17 p18
          have G19 : mxG h17 := mxU_G p18.1 G13
          refine wp_steps (i' := 63) (ls' := [some (.ref 381), some (.int i1), some (.int (V_196 (mx_i h3 382) (V_198 (mx_i h3 382) i1 (4 : Int32)) (2 : Int32)))]) (st' := [.int 2, .int i1, .ref 381, .int 4, .int i1, .ref 381]) (h' := h17) (P := True) 6 rfl rfl trivial ?_
          obtain ⟨o20, H⟩ := H
          refine wp_call (b := false) (y' := 198) (as := [.ref 381, .int i1, .int 2]) (rest := [.int 4, .int i1, .ref 381]) (P := ((mxT 381).1 = mxRc 198 ∧ mxG h17)) rfl (by with_unfolding_all rfl) ⟨(congrArg Prod.fst sT_381), G19⟩ (Nat.le_of_ble_eq_true rfl) (sp_198 G19 o20 ?_)
          show mx_wp (d + 2) 257 64 [some (.ref 381), some (.int i1), some (.int (V_196 (mx_i h3 382) (V_198 (mx_i h3 382) i1 (4 : Int32)) (2 : Int32)))] [.int (V_198 (mx_i h17 382) i1 (2 : Int32)), .int 4, .int i1, .ref 381] h17 Q
          refine wp_call (b := false) (y' := 251) (as := [.ref 381, .int i1, .int 4, .int (V_198 (mx_i h17 382) i1 (2 : Int32))]) (rest := []) (P := ((mxT 381).1 = mxRc 251 ∧ mxG h17)) rfl (by with_unfolding_all rfl) ⟨(congrArg Prod.fst sT_381), G19⟩ (Nat.le_of_ble_eq_true rfl) (sp_251 G19 ?_)
          show mx_wp (d + 2) 257 65 [some (.ref 381), some (.int i1), some (.int (V_196 (mx_i h3 382) (V_198 (mx_i h3 382) i1 (4 : Int32)) (2 : Int32)))] [] (mx_wrow h17 382 (mLog (mx_i h17 382) i1 (4 : Int32) (V_198 (mx_i h17 382) i1 (2 : Int32)))) Q
          obtain ⟨h21, e22⟩ : ∃ z9, z9 = mx_wrow h17 382 (mLog (mx_i h17 382) i1 (4 : Int32) (V_198 (mx_i h17 382) i1 (2 : Int32))) := ⟨_, rfl⟩
          rw [← e22]
          have H := H h21 e22
          have K24 : mxK h17 h21 := e22 ▸ mxK_wrow
          have G23 : mxG h21 := mxK_G K24 G19
          refine wp_steps (i' := 69) (ls' := [some (.ref 381), some (.int i1), some (.int (V_196 (mx_i h3 382) (V_198 (mx_i h3 382) i1 (4 : Int32)) (2 : Int32)))]) (st' := [.int 1, .int 3, .int i1, .ref 381]) (h' := h21) (P := True) 4 rfl rfl trivial ?_
          obtain ⟨o25, H⟩ := H
          refine wp_call (b := false) (y' := 199) (as := [.ref 381, .int i1, .int 3, .int 1]) (rest := []) (P := ((mxT 381).1 = mxRc 199 ∧ mxG h21)) rfl (by with_unfolding_all rfl) ⟨(congrArg Prod.fst sT_381), G23⟩ (Nat.le_of_ble_eq_true rfl) (sp_199 G23 o25 ?_)
          show mx_wp (d + 2) 257 70 [some (.ref 381), some (.int i1), some (.int (V_196 (mx_i h3 382) (V_198 (mx_i h3 382) i1 (4 : Int32)) (2 : Int32)))] [] (W_199 h21 i1 (3 : Int32) (1 : Int32)) Q
          obtain ⟨h26, e27⟩ : ∃ z9, z9 = W_199 h21 i1 (3 : Int32) (1 : Int32) := ⟨_, rfl⟩
          rw [← e27]
          have H := H h26 e27
          have K29 : mxK h21 h26 := e27 ▸ KW_199
          have G28 : mxG h26 := mxK_G K29 G23
          refine wp_steps (i' := 74) (ls' := [some (.ref 381), some (.int i1), some (.int (V_196 (mx_i h3 382) (V_198 (mx_i h3 382) i1 (4 : Int32)) (2 : Int32)))]) (st' := [.int (V_196 (mx_i h3 382) (V_198 (mx_i h3 382) i1 (4 : Int32)) (2 : Int32)), .int 5, .int i1, .ref 381]) (h' := h26) (P := True) 4 rfl rfl trivial ?_
          obtain ⟨o30, H⟩ := H
          refine wp_call (b := false) (y' := 199) (as := [.ref 381, .int i1, .int 5, .int (V_196 (mx_i h3 382) (V_198 (mx_i h3 382) i1 (4 : Int32)) (2 : Int32))]) (rest := []) (P := ((mxT 381).1 = mxRc 199 ∧ mxG h26)) rfl (by with_unfolding_all rfl) ⟨(congrArg Prod.fst sT_381), G28⟩ (Nat.le_of_ble_eq_true rfl) (sp_199 G28 o30 ?_)
          show mx_wp (d + 2) 257 75 [some (.ref 381), some (.int i1), some (.int (V_196 (mx_i h3 382) (V_198 (mx_i h3 382) i1 (4 : Int32)) (2 : Int32)))] [] (W_199 h26 i1 (5 : Int32) (V_196 (mx_i h3 382) (V_198 (mx_i h3 382) i1 (4 : Int32)) (2 : Int32))) Q
          obtain ⟨h31, e32⟩ : ∃ z9, z9 = W_199 h26 i1 (5 : Int32) (V_196 (mx_i h3 382) (V_198 (mx_i h3 382) i1 (4 : Int32)) (2 : Int32)) := ⟨_, rfl⟩
          rw [← e32]
          have H := H h31 e32
          have K34 : mxK h26 h31 := e32 ▸ KW_199
          have G33 : mxG h31 := mxK_G K34 G28
          refine wp_steps (i' := 76) (ls' := [some (.ref 381), some (.int i1), some (.int (V_196 (mx_i h3 382) (V_198 (mx_i h3 382) i1 (4 : Int32)) (2 : Int32)))]) (st' := [.int (V_196 (mx_i h3 382) (V_198 (mx_i h3 382) i1 (4 : Int32)) (2 : Int32))]) (h' := h31) (P := True) 1 rfl rfl trivial ?_
          exact wp_end (o := .inl (some (.int (V_196 (mx_i h3 382) (V_198 (mx_i h3 382) i1 (4 : Int32)) (2 : Int32))))) (h' := h31) (P := True) rfl rfl trivial H
        · have c14 := Int32.not_le.mp c14
          have H := H.1 c14
          refine wp_steps (i' := 54) (ls' := [some (.ref 381), some (.int i1), some (.int (V_196 (mx_i h3 382) (V_198 (mx_i h3 382) i1 (4 : Int32)) (2 : Int32)))]) (st' := [.int 0]) (h' := h11) (P := True) 1 rfl rfl trivial ?_
          exact wp_end (o := .inl (some (.int 0))) (h' := h11) (P := True) rfl rfl trivial H
      have H := H.1
      refine wp_br (P := True) (c := ¬ (mx_i h3 382 (21 + (V_196 (mx_i h3 382) (V_198 (mx_i h3 382) i1 (4 : Int32)) (2 : Int32))).toNatClampNeg) = 0) (t := 48) (st' := [.ref 381]) rfl rfl trivial (fun c35 => ?_) (fun c35 => ?_)
      · skip
        refine wp_steps (i' := 49) (ls' := [some (.ref 381), some (.int i1), some (.int (V_196 (mx_i h3 382) (V_198 (mx_i h3 382) i1 (4 : Int32)) (2 : Int32)))]) (st' := [.int 0, .ref 381]) (h' := h3) (P := True) 1 rfl rfl trivial ?_
        exact J _ (by rw [if_neg c35])
      · have c35 := Decidable.of_not_not c35
        have H := H.1 c35
        refine wp_steps (i' := 41) (ls' := [some (.ref 381), some (.int i1), some (.int (V_196 (mx_i h3 382) (V_198 (mx_i h3 382) i1 (4 : Int32)) (2 : Int32)))]) (st' := [.int 1, .int i1, .ref 381, .ref 381, .ref 381]) (h' := h3) (P := True) 4 rfl rfl trivial ?_
        obtain ⟨o36, H⟩ := H
        refine wp_call (b := false) (y' := 198) (as := [.ref 381, .int i1, .int 1]) (rest := [.ref 381, .ref 381]) (P := ((mxT 381).1 = mxRc 198 ∧ mxG h3)) rfl (by with_unfolding_all rfl) ⟨(congrArg Prod.fst sT_381), G5⟩ (Nat.le_of_ble_eq_true rfl) (sp_198 G5 o36 ?_)
        show mx_wp (d + 2) 257 42 [some (.ref 381), some (.int i1), some (.int (V_196 (mx_i h3 382) (V_198 (mx_i h3 382) i1 (4 : Int32)) (2 : Int32)))] [.int (V_198 (mx_i h3 382) i1 (1 : Int32)), .ref 381, .ref 381] h3 Q
        refine wp_steps (i' := 43) (ls' := [some (.ref 381), some (.int i1), some (.int (V_196 (mx_i h3 382) (V_198 (mx_i h3 382) i1 (4 : Int32)) (2 : Int32)))]) (st' := [.int 2, .int (V_198 (mx_i h3 382) i1 (1 : Int32)), .ref 381, .ref 381]) (h' := h3) (P := True) 1 rfl rfl trivial ?_
        obtain ⟨o37, H⟩ := H
        refine wp_call (b := false) (y' := 196) (as := [.ref 381, .int (V_198 (mx_i h3 382) i1 (1 : Int32)), .int 2]) (rest := [.ref 381]) (P := ((mxT 381).1 = mxRc 196 ∧ mxG h3)) rfl (by with_unfolding_all rfl) ⟨(congrArg Prod.fst sT_381), G5⟩ (Nat.le_of_ble_eq_true rfl) (sp_196 G5 o37 ?_)
        show mx_wp (d + 2) 257 44 [some (.ref 381), some (.int i1), some (.int (V_196 (mx_i h3 382) (V_198 (mx_i h3 382) i1 (4 : Int32)) (2 : Int32)))] [.int (V_196 (mx_i h3 382) (V_198 (mx_i h3 382) i1 (1 : Int32)) (2 : Int32)), .ref 381] h3 Q
        refine wp_steps (i' := 45) (ls' := [some (.ref 381), some (.int i1), some (.int (V_196 (mx_i h3 382) (V_198 (mx_i h3 382) i1 (4 : Int32)) (2 : Int32)))]) (st' := [.int (V_196 (mx_i h3 382) (V_198 (mx_i h3 382) i1 (4 : Int32)) (2 : Int32)), .int (V_196 (mx_i h3 382) (V_198 (mx_i h3 382) i1 (1 : Int32)) (2 : Int32)), .ref 381]) (h' := h3) (P := True) 1 rfl rfl trivial ?_
        refine wp_br (P := True) (c := (V_196 (mx_i h3 382) (V_198 (mx_i h3 382) i1 (1 : Int32)) (2 : Int32)) = (V_196 (mx_i h3 382) (V_198 (mx_i h3 382) i1 (4 : Int32)) (2 : Int32))) (t := 48) (st' := [.ref 381]) rfl rfl trivial (fun c38 => ?_) (fun c38 => ?_)
        · skip
          refine wp_steps (i' := 49) (ls' := [some (.ref 381), some (.int i1), some (.int (V_196 (mx_i h3 382) (V_198 (mx_i h3 382) i1 (4 : Int32)) (2 : Int32)))]) (st' := [.int 0, .ref 381]) (h' := h3) (P := True) 1 rfl rfl trivial ?_
          exact J _ (by rw [if_pos c35, if_pos c38])
        · skip
          refine wp_steps (i' := 47) (ls' := [some (.ref 381), some (.int i1), some (.int (V_196 (mx_i h3 382) (V_198 (mx_i h3 382) i1 (4 : Int32)) (2 : Int32)))]) (st' := [.int 2, .ref 381]) (h' := h3) (P := True) 1 rfl rfl trivial ?_
          refine wp_J (j := 49) (st' := [.int 2, .ref 381]) rfl rfl ?_
          exact J _ (by rw [if_pos c35, if_neg c38])
    · have c6 := Int32.not_le.mp c6
      have H := H.1 c6
      refine wp_steps (i' := 20) (ls' := [some (.ref 381), some (.int i1), none]) (st' := [.int 0]) (h' := h3) (P := True) 1 rfl rfl trivial ?_
      exact wp_end (o := .inl (some (.int 0))) (h' := h3) (P := True) rfl rfl trivial H
  have H := H.1
  refine wp_br (P := True) (c := ¬ (V_201 (mx_i h 382) i1) = 0) (t := 7) (st' := [.ref 381]) rfl rfl trivial (fun c39 => ?_) (fun c39 => ?_)
  · skip
    have H := H.2 c39
    refine wp_steps (i' := 10) (ls' := [some (.ref 381), some (.int i1), none]) (st' := [.int 3, .int i1, .ref 381, .ref 381]) (h' := h) (P := True) 3 rfl rfl trivial ?_
    obtain ⟨o40, H⟩ := H
    refine wp_call (b := false) (y' := 198) (as := [.ref 381, .int i1, .int 3]) (rest := [.ref 381]) (P := ((mxT 381).1 = mxRc 198 ∧ mxG h)) rfl (by with_unfolding_all rfl) ⟨(congrArg Prod.fst sT_381), G⟩ (Nat.le_of_ble_eq_true rfl) (sp_198 G o40 ?_)
    show mx_wp (d + 2) 257 11 [some (.ref 381), some (.int i1), none] [.int (V_198 (mx_i h 382) i1 (3 : Int32)), .ref 381] h Q
    refine wp_br (P := True) (c := (V_198 (mx_i h 382) i1 (3 : Int32)) = 0) (t := 14) (st' := [.ref 381]) rfl rfl trivial (fun c41 => ?_) (fun c41 => ?_)
    · skip
      refine wp_steps (i' := 15) (ls' := [some (.ref 381), some (.int i1), none]) (st' := [.int 0, .ref 381]) (h' := h) (P := True) 1 rfl rfl trivial ?_
      exact J _ (by rw [if_neg c39, if_pos c41])
    · skip
      refine wp_steps (i' := 13) (ls' := [some (.ref 381), some (.int i1), none]) (st' := [.int 2, .ref 381]) (h' := h) (P := True) 1 rfl rfl trivial ?_
      refine wp_J (j := 15) (st' := [.int 2, .ref 381]) rfl rfl ?_
      exact J _ (by rw [if_neg c39, if_neg c41])
  · have c39 := Decidable.of_not_not c39
    refine wp_steps (i' := 6) (ls' := [some (.ref 381), some (.int i1), none]) (st' := [.int 1, .ref 381]) (h' := h) (P := True) 1 rfl rfl trivial ?_
    refine wp_J (j := 15) (st' := [.int 1, .ref 381]) rfl rfl ?_
    exact J _ (by rw [if_pos c39])
/-! 258: StoneBacksModel.lift(II)I -/
set_option maxRecDepth 8000 in
theorem tr_258_0 {d : Nat} {h : mxH} {Q : mxO → mxH → Prop} {i1 : Int32} {i2 : Int32} (G : mxG h)  (H : (((V_191 (mx_i h 382) i1 (0 : Int32) ((mx_i h 382 4) - 1)) = 0 ∨ (V_191 (mx_i h 382) i1 (0 : Int32) ((mx_i h 382 4) - 1)) = 1) ∧ ((((V_201 (mx_i h 382) i1) = 0 → True) ∧ (¬ (V_201 (mx_i h 382) i1) = 0 → (((V_191 (mx_i h 382) i2 (0 : Int32) ((mx_i h 382 3) - 1)) = 0 ∨ (V_191 (mx_i h 382) i2 (0 : Int32) ((mx_i h 382 3) - 1)) = 1) ∧ (((V_200 (mx_i h 382) i2) = 0 → True) ∧ (¬ (V_200 (mx_i h 382) i2) = 0 → (vp_in ((69 + (6 * i1)) + (3 : Int32)) 769 ∧ (((V_198 (mx_i h 382) i1 (3 : Int32)) = 1 → (vp_in ((69 + (6 * i1)) + (5 : Int32)) 769 ∧ (vp_in ((33 + (6 * i2)) + (2 : Int32)) 769 ∧ True))) ∧ (¬ (V_198 (mx_i h 382) i1 (3 : Int32)) = 1 → True)))))))) ∧ (∀ (v2 : Int32), v2 = ((if (V_201 (mx_i h 382) i1) = 0 then 1 else (if (V_200 (mx_i h 382) i2) = 0 then 1 else (if (V_198 (mx_i h 382) i1 (3 : Int32)) = 1 then (if (V_198 (mx_i h 382) i1 (5 : Int32)) = (V_196 (mx_i h 382) i2 (2 : Int32)) then 0 else 2) else 2))) : Int32) → (∀ h3, h3 = mx_wi h 381 0 v2 → ((0 < (mx_i h3 381 0) → Q (.inl (some (.int 0))) h3) ∧ (¬ 0 < (mx_i h3 381 0) → (cB (mx_i h3 381 6) 12 ∧ (∀ (h9 : mxH), rmM h3 h9 → (vp_in ((69 + (6 * i1)) + (2 : Int32)) 769 ∧ (∀ h13, h13 = mx_wrow h9 382 (mLog (mx_i h9 382) i1 (5 : Int32) (V_198 (mx_i h9 382) i1 (2 : Int32))) → (vp_in ((69 + (6 * i1)) + (3 : Int32)) 769 ∧ (∀ h18, h18 = W_199 h13 i1 (3 : Int32) (0 : Int32) → (vp_in ((69 + (6 * i1)) + (4 : Int32)) 769 ∧ (∀ h23, h23 = W_199 h18 i1 (4 : Int32) i2 → (cB (mx_i h23 382 4) 10 ∧ Q (.inl (some (.int (V_205 (mx_i h23 382) i2)))) h23)))))))))))))))) : mx_wp (d + 3) 258 0 (mx_fr 258 [.ref 381, .int i1, .int i2]) [] h Q := by
  show mx_wp (d + 3) 258 0 [some (.ref 381), some (.int i1), some (.int i2)] [] h Q
  refine wp_steps (i' := 3) (ls' := [some (.ref 381), some (.int i1), some (.int i2)]) (st' := [.int i1, .ref 381, .ref 381]) (h' := h) (P := True) 3 rfl rfl trivial ?_
  obtain ⟨o1, H⟩ := H
  refine wp_call (b := false) (y' := 201) (as := [.ref 381, .int i1]) (rest := [.ref 381]) (P := ((mxT 381).1 = mxRc 201 ∧ mxG h)) rfl (by with_unfolding_all rfl) ⟨(congrArg Prod.fst sT_381), G⟩ (Nat.le_of_ble_eq_true rfl) (sp_201 G o1 ?_)
  show mx_wp (d + 3) 258 4 [some (.ref 381), some (.int i1), some (.int i2)] [.int (V_201 (mx_i h 382) i1), .ref 381] h Q
  have J : ∀ (v2 : Int32) (ev2 : v2 = ((if (V_201 (mx_i h 382) i1) = 0 then 1 else (if (V_200 (mx_i h 382) i2) = 0 then 1 else (if (V_198 (mx_i h 382) i1 (3 : Int32)) = 1 then (if (V_198 (mx_i h 382) i1 (5 : Int32)) = (V_196 (mx_i h 382) i2 (2 : Int32)) then 0 else 2) else 2))) : Int32)), mx_wp (d + 3) 258 29 [some (.ref 381), some (.int i1), some (.int i2)] [.int v2, .ref 381] h Q := by
    intro v2 ev2
    have H := H.2 v2 ev2
    refine wp_steps (i' := 30) (ls' := [some (.ref 381), some (.int i1), some (.int i2)]) (st' := []) (h' := mx_wi h 381 0 v2) (P := ((mxT 381).1 = 11 ∧ mxG h) ∧ True) 1 rfl rfl ⟨⟨(congrArg Prod.fst sT_381), G⟩, trivial⟩ ?_
    obtain ⟨h3, e4⟩ : ∃ z9, z9 = mx_wi h 381 0 v2 := ⟨_, rfl⟩
    rw [← e4]
    have H := H h3 e4
    have G5 : mxG h3 := e4 ▸ mxG_wi G
    refine wp_steps (i' := 32) (ls' := [some (.ref 381), some (.int i1), some (.int i2)]) (st' := [.int (mx_i h3 381 0)]) (h' := h3) (P := ((mxT 381).1 = 11 ∧ mxG h3) ∧ True) 2 rfl rfl ⟨⟨(congrArg Prod.fst sT_381), G5⟩, trivial⟩ ?_
    refine wp_br (P := True) (c := (mx_i h3 381 0) ≤ 0) (t := 35) (st' := []) rfl rfl trivial (fun c6 => ?_) (fun c6 => ?_)
    · have c6 := Int32.not_lt.mpr c6
      have H := H.2 c6
      refine wp_steps (i' := 36) (ls' := [some (.ref 381), some (.int i1), some (.int i2)]) (st' := [.ref 381]) (h' := h3) (P := True) 1 rfl rfl trivial ?_
      obtain ⟨o7, H⟩ := H
      refine wp_call (b := false) (y' := 250) (as := [.ref 381]) (rest := []) (P := ((mxT 381).1 = mxRc 250 ∧ mxG h3)) rfl (by with_unfolding_all rfl) ⟨(congrArg Prod.fst sT_381), G5⟩ (Nat.le_of_ble_eq_true rfl) (sp_250 G5 o7 ?_)
      intro h9 p10
      show mx_wp (d + 3) 258 37 [some (.ref 381), some (.int i1), some (.int i2)] [] h9 Q
      have H := H h9 p10
      have G11 : mxG h9 := mxU_G p10.1 G5
      refine wp_steps (i' := 43) (ls' := [some (.ref 381), some (.int i1), some (.int i2)]) (st' := [.int 2, .int i1, .ref 381, .int 5, .int i1, .ref 381]) (h' := h9) (P := True) 6 rfl rfl trivial ?_
      obtain ⟨o12, H⟩ := H
      refine wp_call (b := false) (y' := 198) (as := [.ref 381, .int i1, .int 2]) (rest := [.int 5, .int i1, .ref 381]) (P := ((mxT 381).1 = mxRc 198 ∧ mxG h9)) rfl (by with_unfolding_all rfl) ⟨(congrArg Prod.fst sT_381), G11⟩ (Nat.le_of_ble_eq_true rfl) (sp_198 G11 o12 ?_)
      show mx_wp (d + 3) 258 44 [some (.ref 381), some (.int i1), some (.int i2)] [.int (V_198 (mx_i h9 382) i1 (2 : Int32)), .int 5, .int i1, .ref 381] h9 Q
      refine wp_call (b := false) (y' := 251) (as := [.ref 381, .int i1, .int 5, .int (V_198 (mx_i h9 382) i1 (2 : Int32))]) (rest := []) (P := ((mxT 381).1 = mxRc 251 ∧ mxG h9)) rfl (by with_unfolding_all rfl) ⟨(congrArg Prod.fst sT_381), G11⟩ (Nat.le_of_ble_eq_true rfl) (sp_251 G11 ?_)
      show mx_wp (d + 3) 258 45 [some (.ref 381), some (.int i1), some (.int i2)] [] (mx_wrow h9 382 (mLog (mx_i h9 382) i1 (5 : Int32) (V_198 (mx_i h9 382) i1 (2 : Int32)))) Q
      obtain ⟨h13, e14⟩ : ∃ z9, z9 = mx_wrow h9 382 (mLog (mx_i h9 382) i1 (5 : Int32) (V_198 (mx_i h9 382) i1 (2 : Int32))) := ⟨_, rfl⟩
      rw [← e14]
      have H := H h13 e14
      have K16 : mxK h9 h13 := e14 ▸ mxK_wrow
      have G15 : mxG h13 := mxK_G K16 G11
      refine wp_steps (i' := 49) (ls' := [some (.ref 381), some (.int i1), some (.int i2)]) (st' := [.int 0, .int 3, .int i1, .ref 381]) (h' := h13) (P := True) 4 rfl rfl trivial ?_
      obtain ⟨o17, H⟩ := H
      refine wp_call (b := false) (y' := 199) (as := [.ref 381, .int i1, .int 3, .int 0]) (rest := []) (P := ((mxT 381).1 = mxRc 199 ∧ mxG h13)) rfl (by with_unfolding_all rfl) ⟨(congrArg Prod.fst sT_381), G15⟩ (Nat.le_of_ble_eq_true rfl) (sp_199 G15 o17 ?_)
      show mx_wp (d + 3) 258 50 [some (.ref 381), some (.int i1), some (.int i2)] [] (W_199 h13 i1 (3 : Int32) (0 : Int32)) Q
      obtain ⟨h18, e19⟩ : ∃ z9, z9 = W_199 h13 i1 (3 : Int32) (0 : Int32) := ⟨_, rfl⟩
      rw [← e19]
      have H := H h18 e19
      have K21 : mxK h13 h18 := e19 ▸ KW_199
      have G20 : mxG h18 := mxK_G K21 G15
      refine wp_steps (i' := 54) (ls' := [some (.ref 381), some (.int i1), some (.int i2)]) (st' := [.int i2, .int 4, .int i1, .ref 381]) (h' := h18) (P := True) 4 rfl rfl trivial ?_
      obtain ⟨o22, H⟩ := H
      refine wp_call (b := false) (y' := 199) (as := [.ref 381, .int i1, .int 4, .int i2]) (rest := []) (P := ((mxT 381).1 = mxRc 199 ∧ mxG h18)) rfl (by with_unfolding_all rfl) ⟨(congrArg Prod.fst sT_381), G20⟩ (Nat.le_of_ble_eq_true rfl) (sp_199 G20 o22 ?_)
      show mx_wp (d + 3) 258 55 [some (.ref 381), some (.int i1), some (.int i2)] [] (W_199 h18 i1 (4 : Int32) i2) Q
      obtain ⟨h23, e24⟩ : ∃ z9, z9 = W_199 h18 i1 (4 : Int32) i2 := ⟨_, rfl⟩
      rw [← e24]
      have H := H h23 e24
      have K26 : mxK h18 h23 := e24 ▸ KW_199
      have G25 : mxG h23 := mxK_G K26 G20
      refine wp_steps (i' := 57) (ls' := [some (.ref 381), some (.int i1), some (.int i2)]) (st' := [.int i2, .ref 381]) (h' := h23) (P := True) 2 rfl rfl trivial ?_
      obtain ⟨o27, H⟩ := H
      refine wp_call (b := false) (y' := 205) (as := [.ref 381, .int i2]) (rest := []) (P := ((mxT 381).1 = mxRc 205 ∧ mxG h23)) rfl (by with_unfolding_all rfl) ⟨(congrArg Prod.fst sT_381), G25⟩ (Nat.le_of_ble_eq_true rfl) (sp_205 G25 o27 ?_)
      show mx_wp (d + 3) 258 58 [some (.ref 381), some (.int i1), some (.int i2)] [.int (V_205 (mx_i h23 382) i2)] h23 Q
      exact wp_end (o := .inl (some (.int (V_205 (mx_i h23 382) i2)))) (h' := h23) (P := True) rfl rfl trivial H
    · have c6 := Int32.not_le.mp c6
      have H := H.1 c6
      refine wp_steps (i' := 34) (ls' := [some (.ref 381), some (.int i1), some (.int i2)]) (st' := [.int 0]) (h' := h3) (P := True) 1 rfl rfl trivial ?_
      exact wp_end (o := .inl (some (.int 0))) (h' := h3) (P := True) rfl rfl trivial H
  have H := H.1
  refine wp_br (P := True) (c := (V_201 (mx_i h 382) i1) = 0) (t := 9) (st' := [.ref 381]) rfl rfl trivial (fun c28 => ?_) (fun c28 => ?_)
  · skip
    refine wp_steps (i' := 10) (ls' := [some (.ref 381), some (.int i1), some (.int i2)]) (st' := [.int 1, .ref 381]) (h' := h) (P := True) 1 rfl rfl trivial ?_
    refine wp_J (j := 29) (st' := [.int 1, .ref 381]) rfl rfl ?_
    exact J _ (by rw [if_pos c28])
  · skip
    have H := H.2 c28
    refine wp_steps (i' := 7) (ls' := [some (.ref 381), some (.int i1), some (.int i2)]) (st' := [.int i2, .ref 381, .ref 381]) (h' := h) (P := True) 2 rfl rfl trivial ?_
    obtain ⟨o29, H⟩ := H
    refine wp_call (b := false) (y' := 200) (as := [.ref 381, .int i2]) (rest := [.ref 381]) (P := ((mxT 381).1 = mxRc 200 ∧ mxG h)) rfl (by with_unfolding_all rfl) ⟨(congrArg Prod.fst sT_381), G⟩ (Nat.le_of_ble_eq_true rfl) (sp_200 G o29 ?_)
    show mx_wp (d + 3) 258 8 [some (.ref 381), some (.int i1), some (.int i2)] [.int (V_200 (mx_i h 382) i2), .ref 381] h Q
    refine wp_br (P := True) (c := ¬ (V_200 (mx_i h 382) i2) = 0) (t := 11) (st' := [.ref 381]) rfl rfl trivial (fun c30 => ?_) (fun c30 => ?_)
    · skip
      have H := H.2 c30
      refine wp_steps (i' := 14) (ls' := [some (.ref 381), some (.int i1), some (.int i2)]) (st' := [.int 3, .int i1, .ref 381, .ref 381]) (h' := h) (P := True) 3 rfl rfl trivial ?_
      obtain ⟨o31, H⟩ := H
      refine wp_call (b := false) (y' := 198) (as := [.ref 381, .int i1, .int 3]) (rest := [.ref 381]) (P := ((mxT 381).1 = mxRc 198 ∧ mxG h)) rfl (by with_unfolding_all rfl) ⟨(congrArg Prod.fst sT_381), G⟩ (Nat.le_of_ble_eq_true rfl) (sp_198 G o31 ?_)
      show mx_wp (d + 3) 258 15 [some (.ref 381), some (.int i1), some (.int i2)] [.int (V_198 (mx_i h 382) i1 (3 : Int32)), .ref 381] h Q
      refine wp_steps (i' := 16) (ls' := [some (.ref 381), some (.int i1), some (.int i2)]) (st' := [.int 1, .int (V_198 (mx_i h 382) i1 (3 : Int32)), .ref 381]) (h' := h) (P := True) 1 rfl rfl trivial ?_
      refine wp_br (P := True) (c := ¬ (V_198 (mx_i h 382) i1 (3 : Int32)) = 1) (t := 26) (st' := [.ref 381]) rfl rfl trivial (fun c32 => ?_) (fun c32 => ?_)
      · skip
        refine wp_steps (i' := 27) (ls' := [some (.ref 381), some (.int i1), some (.int i2)]) (st' := [.int 2, .ref 381]) (h' := h) (P := True) 1 rfl rfl trivial ?_
        refine wp_J (j := 29) (st' := [.int 2, .ref 381]) rfl rfl ?_
        exact J _ (by rw [if_neg c28, if_neg c30, if_neg c32])
      · have c32 := Decidable.of_not_not c32
        have H := H.1 c32
        refine wp_steps (i' := 20) (ls' := [some (.ref 381), some (.int i1), some (.int i2)]) (st' := [.int 5, .int i1, .ref 381, .ref 381]) (h' := h) (P := True) 3 rfl rfl trivial ?_
        obtain ⟨o33, H⟩ := H
        refine wp_call (b := false) (y' := 198) (as := [.ref 381, .int i1, .int 5]) (rest := [.ref 381]) (P := ((mxT 381).1 = mxRc 198 ∧ mxG h)) rfl (by with_unfolding_all rfl) ⟨(congrArg Prod.fst sT_381), G⟩ (Nat.le_of_ble_eq_true rfl) (sp_198 G o33 ?_)
        show mx_wp (d + 3) 258 21 [some (.ref 381), some (.int i1), some (.int i2)] [.int (V_198 (mx_i h 382) i1 (5 : Int32)), .ref 381] h Q
        refine wp_steps (i' := 24) (ls' := [some (.ref 381), some (.int i1), some (.int i2)]) (st' := [.int 2, .int i2, .ref 381, .int (V_198 (mx_i h 382) i1 (5 : Int32)), .ref 381]) (h' := h) (P := True) 3 rfl rfl trivial ?_
        obtain ⟨o34, H⟩ := H
        refine wp_call (b := false) (y' := 196) (as := [.ref 381, .int i2, .int 2]) (rest := [.int (V_198 (mx_i h 382) i1 (5 : Int32)), .ref 381]) (P := ((mxT 381).1 = mxRc 196 ∧ mxG h)) rfl (by with_unfolding_all rfl) ⟨(congrArg Prod.fst sT_381), G⟩ (Nat.le_of_ble_eq_true rfl) (sp_196 G o34 ?_)
        show mx_wp (d + 3) 258 25 [some (.ref 381), some (.int i1), some (.int i2)] [.int (V_196 (mx_i h 382) i2 (2 : Int32)), .int (V_198 (mx_i h 382) i1 (5 : Int32)), .ref 381] h Q
        refine wp_br (P := True) (c := (V_198 (mx_i h 382) i1 (5 : Int32)) = (V_196 (mx_i h 382) i2 (2 : Int32))) (t := 28) (st' := [.ref 381]) rfl rfl trivial (fun c35 => ?_) (fun c35 => ?_)
        · skip
          refine wp_steps (i' := 29) (ls' := [some (.ref 381), some (.int i1), some (.int i2)]) (st' := [.int 0, .ref 381]) (h' := h) (P := True) 1 rfl rfl trivial ?_
          exact J _ (by rw [if_neg c28, if_neg c30, if_pos c32, if_pos c35])
        · skip
          refine wp_steps (i' := 27) (ls' := [some (.ref 381), some (.int i1), some (.int i2)]) (st' := [.int 2, .ref 381]) (h' := h) (P := True) 1 rfl rfl trivial ?_
          refine wp_J (j := 29) (st' := [.int 2, .ref 381]) rfl rfl ?_
          exact J _ (by rw [if_neg c28, if_neg c30, if_pos c32, if_neg c35])
    · have c30 := Decidable.of_not_not c30
      refine wp_steps (i' := 10) (ls' := [some (.ref 381), some (.int i1), some (.int i2)]) (st' := [.int 1, .ref 381]) (h' := h) (P := True) 1 rfl rfl trivial ?_
      refine wp_J (j := 29) (st' := [.int 1, .ref 381]) rfl rfl ?_
      exact J _ (by rw [if_neg c28, if_pos c30])
/-! 259: StoneBacksModel.goal(II)I -/
set_option maxRecDepth 8000 in
theorem tr_259_0 {d : Nat} {h : mxH} {Q : mxO → mxH → Prop} {i1 : Int32} {i2 : Int32} (G : mxG h)  (H : (((V_191 (mx_i h 382) i1 (0 : Int32) ((mx_i h 382 3) - 1)) = 0 ∨ (V_191 (mx_i h 382) i1 (0 : Int32) ((mx_i h 382 3) - 1)) = 1) ∧ ((((V_200 (mx_i h 382) i1) = 0 → True) ∧ (¬ (V_200 (mx_i h 382) i1) = 0 → (((V_191 (mx_i h 382) i2 (0 : Int32) (11 : Int32)) = 0 ∨ (V_191 (mx_i h 382) i2 (0 : Int32) (11 : Int32)) = 1) ∧ True))) ∧ (∀ (v2 : Int32), v2 = ((if (V_200 (mx_i h 382) i1) = 0 then 1 else (if (V_202 (mx_i h 382) i2) = 0 then 1 else 0)) : Int32) → (∀ h3, h3 = mx_wi h 381 0 v2 → ((0 < (mx_i h3 381 0) → Q (.inl (some (.int 0))) h3) ∧ (¬ 0 < (mx_i h3 381 0) → (cB (mx_i h3 381 6) 12 ∧ (∀ (h9 : mxH), rmM h3 h9 → (vp_in ((33 + (6 * i1)) + (3 : Int32)) 769 ∧ (∀ h13, h13 = W_197 h9 i1 (3 : Int32) i2 → Q (.inl (some (.int (V_196 (mx_i h9 382) i1 (3 : Int32))))) h13))))))))))) : mx_wp (d + 2) 259 0 (mx_fr 259 [.ref 381, .int i1, .int i2]) [] h Q := by
  show mx_wp (d + 2) 259 0 [some (.ref 381), some (.int i1), some (.int i2), none] [] h Q
  refine wp_steps (i' := 3) (ls' := [some (.ref 381), some (.int i1), some (.int i2), none]) (st' := [.int i1, .ref 381, .ref 381]) (h' := h) (P := True) 3 rfl rfl trivial ?_
  obtain ⟨o1, H⟩ := H
  refine wp_call (b := false) (y' := 200) (as := [.ref 381, .int i1]) (rest := [.ref 381]) (P := ((mxT 381).1 = mxRc 200 ∧ mxG h)) rfl (by with_unfolding_all rfl) ⟨(congrArg Prod.fst sT_381), G⟩ (Nat.le_of_ble_eq_true rfl) (sp_200 G o1 ?_)
  show mx_wp (d + 2) 259 4 [some (.ref 381), some (.int i1), some (.int i2), none] [.int (V_200 (mx_i h 382) i1), .ref 381] h Q
  have J : ∀ (v2 : Int32) (ev2 : v2 = ((if (V_200 (mx_i h 382) i1) = 0 then 1 else (if (V_202 (mx_i h 382) i2) = 0 then 1 else 0)) : Int32)), mx_wp (d + 2) 259 11 [some (.ref 381), some (.int i1), some (.int i2), none] [.int v2, .ref 381] h Q := by
    intro v2 ev2
    have H := H.2 v2 ev2
    refine wp_steps (i' := 12) (ls' := [some (.ref 381), some (.int i1), some (.int i2), none]) (st' := []) (h' := mx_wi h 381 0 v2) (P := ((mxT 381).1 = 11 ∧ mxG h) ∧ True) 1 rfl rfl ⟨⟨(congrArg Prod.fst sT_381), G⟩, trivial⟩ ?_
    obtain ⟨h3, e4⟩ : ∃ z9, z9 = mx_wi h 381 0 v2 := ⟨_, rfl⟩
    rw [← e4]
    have H := H h3 e4
    have G5 : mxG h3 := e4 ▸ mxG_wi G
    refine wp_steps (i' := 14) (ls' := [some (.ref 381), some (.int i1), some (.int i2), none]) (st' := [.int (mx_i h3 381 0)]) (h' := h3) (P := ((mxT 381).1 = 11 ∧ mxG h3) ∧ True) 2 rfl rfl ⟨⟨(congrArg Prod.fst sT_381), G5⟩, trivial⟩ ?_
    refine wp_br (P := True) (c := (mx_i h3 381 0) ≤ 0) (t := 17) (st' := []) rfl rfl trivial (fun c6 => ?_) (fun c6 => ?_)
    · have c6 := Int32.not_lt.mpr c6
      have H := H.2 c6
      refine wp_steps (i' := 18) (ls' := [some (.ref 381), some (.int i1), some (.int i2), none]) (st' := [.ref 381]) (h' := h3) (P := True) 1 rfl rfl trivial ?_
      obtain ⟨o7, H⟩ := H
      refine wp_call (b := false) (y' := 250) (as := [.ref 381]) (rest := []) (P := ((mxT 381).1 = mxRc 250 ∧ mxG h3)) rfl (by with_unfolding_all rfl) ⟨(congrArg Prod.fst sT_381), G5⟩ (Nat.le_of_ble_eq_true rfl) (sp_250 G5 o7 ?_)
      intro h9 p10
      show mx_wp (d + 2) 259 19 [some (.ref 381), some (.int i1), some (.int i2), none] [] h9 Q
      have H := H h9 p10
      have G11 : mxG h9 := mxU_G p10.1 G5
      refine wp_steps (i' := 22) (ls' := [some (.ref 381), some (.int i1), some (.int i2), none]) (st' := [.int 3, .int i1, .ref 381]) (h' := h9) (P := True) 3 rfl rfl trivial ?_
      obtain ⟨o12, H⟩ := H
      refine wp_call (b := false) (y' := 196) (as := [.ref 381, .int i1, .int 3]) (rest := []) (P := ((mxT 381).1 = mxRc 196 ∧ mxG h9)) rfl (by with_unfolding_all rfl) ⟨(congrArg Prod.fst sT_381), G11⟩ (Nat.le_of_ble_eq_true rfl) (sp_196 G11 o12 ?_)
      show mx_wp (d + 2) 259 23 [some (.ref 381), some (.int i1), some (.int i2), none] [.int (V_196 (mx_i h9 382) i1 (3 : Int32))] h9 Q
      refine wp_steps (i' := 28) (ls' := [some (.ref 381), some (.int i1), some (.int i2), some (.int (V_196 (mx_i h9 382) i1 (3 : Int32)))]) (st' := [.int i2, .int 3, .int i1, .ref 381]) (h' := h9) (P := True) 5 rfl rfl trivial ?_
      refine wp_call (b := false) (y' := 197) (as := [.ref 381, .int i1, .int 3, .int i2]) (rest := []) (P := ((mxT 381).1 = mxRc 197 ∧ mxG h9)) rfl (by with_unfolding_all rfl) ⟨(congrArg Prod.fst sT_381), G11⟩ (Nat.le_of_ble_eq_true rfl) (sp_197 G11 o12 ?_)
      show mx_wp (d + 2) 259 29 [some (.ref 381), some (.int i1), some (.int i2), some (.int (V_196 (mx_i h9 382) i1 (3 : Int32)))] [] (W_197 h9 i1 (3 : Int32) i2) Q
      obtain ⟨h13, e14⟩ : ∃ z9, z9 = W_197 h9 i1 (3 : Int32) i2 := ⟨_, rfl⟩
      rw [← e14]
      have H := H h13 e14
      have K16 : mxK h9 h13 := e14 ▸ KW_197
      have G15 : mxG h13 := mxK_G K16 G11
      refine wp_steps (i' := 30) (ls' := [some (.ref 381), some (.int i1), some (.int i2), some (.int (V_196 (mx_i h9 382) i1 (3 : Int32)))]) (st' := [.int (V_196 (mx_i h9 382) i1 (3 : Int32))]) (h' := h13) (P := True) 1 rfl rfl trivial ?_
      exact wp_end (o := .inl (some (.int (V_196 (mx_i h9 382) i1 (3 : Int32))))) (h' := h13) (P := True) rfl rfl trivial H
    · have c6 := Int32.not_le.mp c6
      have H := H.1 c6
      refine wp_steps (i' := 16) (ls' := [some (.ref 381), some (.int i1), some (.int i2), none]) (st' := [.int 0]) (h' := h3) (P := True) 1 rfl rfl trivial ?_
      exact wp_end (o := .inl (some (.int 0))) (h' := h3) (P := True) rfl rfl trivial H
  have H := H.1
  refine wp_br (P := True) (c := (V_200 (mx_i h 382) i1) = 0) (t := 8) (st' := [.ref 381]) rfl rfl trivial (fun c17 => ?_) (fun c17 => ?_)
  · skip
    refine wp_steps (i' := 9) (ls' := [some (.ref 381), some (.int i1), some (.int i2), none]) (st' := [.int 1, .ref 381]) (h' := h) (P := True) 1 rfl rfl trivial ?_
    refine wp_J (j := 11) (st' := [.int 1, .ref 381]) rfl rfl ?_
    exact J _ (by rw [if_pos c17])
  · skip
    have H := H.2 c17
    refine wp_steps (i' := 6) (ls' := [some (.ref 381), some (.int i1), some (.int i2), none]) (st' := [.int i2, .ref 381]) (h' := h) (P := True) 1 rfl rfl trivial ?_
    obtain ⟨o18, H⟩ := H
    refine wp_call (b := false) (y' := 202) (as := [.int i2]) (rest := [.ref 381]) (P := True) rfl (by with_unfolding_all rfl) trivial (Nat.le_of_ble_eq_true rfl) (sp_202 G o18 ?_)
    show mx_wp (d + 2) 259 7 [some (.ref 381), some (.int i1), some (.int i2), none] [.int (V_202 (mx_i h 382) i2), .ref 381] h Q
    refine wp_br (P := True) (c := ¬ (V_202 (mx_i h 382) i2) = 0) (t := 10) (st' := [.ref 381]) rfl rfl trivial (fun c19 => ?_) (fun c19 => ?_)
    · skip
      refine wp_steps (i' := 11) (ls' := [some (.ref 381), some (.int i1), some (.int i2), none]) (st' := [.int 0, .ref 381]) (h' := h) (P := True) 1 rfl rfl trivial ?_
      exact J _ (by rw [if_neg c17, if_neg c19])
    · have c19 := Decidable.of_not_not c19
      refine wp_steps (i' := 9) (ls' := [some (.ref 381), some (.int i1), some (.int i2), none]) (st' := [.int 1, .ref 381]) (h' := h) (P := True) 1 rfl rfl trivial ?_
      refine wp_J (j := 11) (st' := [.int 1, .ref 381]) rfl rfl ?_
      exact J _ (by rw [if_neg c17, if_pos c19])
/-! 260: StoneBacksModel.rest(I)I -/
set_option maxRecDepth 8000 in
theorem tr_260_0 {d : Nat} {h : mxH} {Q : mxO → mxH → Prop} {i1 : Int32} (G : mxG h)  (H : (((V_191 (mx_i h 382) i1 (0 : Int32) ((mx_i h 382 3) - 1)) = 0 ∨ (V_191 (mx_i h 382) i1 (0 : Int32) ((mx_i h 382 3) - 1)) = 1) ∧ (∀ (v2 : Int32), v2 = ((if (V_200 (mx_i h 382) i1) = 0 then 1 else 0) : Int32) → (∀ h3, h3 = mx_wi h 381 0 v2 → ((0 < (mx_i h3 381 0) → Q (.inl (some (.int 0))) h3) ∧ (¬ 0 < (mx_i h3 381 0) → (cB (mx_i h3 381 6) 12 ∧ (∀ (h9 : mxH), rmM h3 h9 → (vp_in ((33 + (6 * i1)) + (4 : Int32)) 769 ∧ (∀ h13, h13 = W_197 h9 i1 (4 : Int32) (0 : Int32) → (vp_in ((33 + (6 * i1)) + (5 : Int32)) 769 ∧ (∀ h18, h18 = W_197 h13 i1 (5 : Int32) (0 : Int32) → Q (.inl (some (.int (V_196 (mx_i h9 382) i1 (4 : Int32))))) h18)))))))))))) : mx_wp (d + 2) 260 0 (mx_fr 260 [.ref 381, .int i1]) [] h Q := by
  show mx_wp (d + 2) 260 0 [some (.ref 381), some (.int i1), none] [] h Q
  refine wp_steps (i' := 3) (ls' := [some (.ref 381), some (.int i1), none]) (st' := [.int i1, .ref 381, .ref 381]) (h' := h) (P := True) 3 rfl rfl trivial ?_
  obtain ⟨o1, H⟩ := H
  refine wp_call (b := false) (y' := 200) (as := [.ref 381, .int i1]) (rest := [.ref 381]) (P := ((mxT 381).1 = mxRc 200 ∧ mxG h)) rfl (by with_unfolding_all rfl) ⟨(congrArg Prod.fst sT_381), G⟩ (Nat.le_of_ble_eq_true rfl) (sp_200 G o1 ?_)
  show mx_wp (d + 2) 260 4 [some (.ref 381), some (.int i1), none] [.int (V_200 (mx_i h 382) i1), .ref 381] h Q
  have J : ∀ (v2 : Int32) (ev2 : v2 = ((if (V_200 (mx_i h 382) i1) = 0 then 1 else 0) : Int32)), mx_wp (d + 2) 260 8 [some (.ref 381), some (.int i1), none] [.int v2, .ref 381] h Q := by
    intro v2 ev2
    have H := H v2 ev2
    refine wp_steps (i' := 9) (ls' := [some (.ref 381), some (.int i1), none]) (st' := []) (h' := mx_wi h 381 0 v2) (P := ((mxT 381).1 = 11 ∧ mxG h) ∧ True) 1 rfl rfl ⟨⟨(congrArg Prod.fst sT_381), G⟩, trivial⟩ ?_
    obtain ⟨h3, e4⟩ : ∃ z9, z9 = mx_wi h 381 0 v2 := ⟨_, rfl⟩
    rw [← e4]
    have H := H h3 e4
    have G5 : mxG h3 := e4 ▸ mxG_wi G
    refine wp_steps (i' := 11) (ls' := [some (.ref 381), some (.int i1), none]) (st' := [.int (mx_i h3 381 0)]) (h' := h3) (P := ((mxT 381).1 = 11 ∧ mxG h3) ∧ True) 2 rfl rfl ⟨⟨(congrArg Prod.fst sT_381), G5⟩, trivial⟩ ?_
    refine wp_br (P := True) (c := (mx_i h3 381 0) ≤ 0) (t := 14) (st' := []) rfl rfl trivial (fun c6 => ?_) (fun c6 => ?_)
    · have c6 := Int32.not_lt.mpr c6
      have H := H.2 c6
      refine wp_steps (i' := 15) (ls' := [some (.ref 381), some (.int i1), none]) (st' := [.ref 381]) (h' := h3) (P := True) 1 rfl rfl trivial ?_
      obtain ⟨o7, H⟩ := H
      refine wp_call (b := false) (y' := 250) (as := [.ref 381]) (rest := []) (P := ((mxT 381).1 = mxRc 250 ∧ mxG h3)) rfl (by with_unfolding_all rfl) ⟨(congrArg Prod.fst sT_381), G5⟩ (Nat.le_of_ble_eq_true rfl) (sp_250 G5 o7 ?_)
      intro h9 p10
      show mx_wp (d + 2) 260 16 [some (.ref 381), some (.int i1), none] [] h9 Q
      have H := H h9 p10
      have G11 : mxG h9 := mxU_G p10.1 G5
      refine wp_steps (i' := 19) (ls' := [some (.ref 381), some (.int i1), none]) (st' := [.int 4, .int i1, .ref 381]) (h' := h9) (P := True) 3 rfl rfl trivial ?_
      obtain ⟨o12, H⟩ := H
      refine wp_call (b := false) (y' := 196) (as := [.ref 381, .int i1, .int 4]) (rest := []) (P := ((mxT 381).1 = mxRc 196 ∧ mxG h9)) rfl (by with_unfolding_all rfl) ⟨(congrArg Prod.fst sT_381), G11⟩ (Nat.le_of_ble_eq_true rfl) (sp_196 G11 o12 ?_)
      show mx_wp (d + 2) 260 20 [some (.ref 381), some (.int i1), none] [.int (V_196 (mx_i h9 382) i1 (4 : Int32))] h9 Q
      refine wp_steps (i' := 25) (ls' := [some (.ref 381), some (.int i1), some (.int (V_196 (mx_i h9 382) i1 (4 : Int32)))]) (st' := [.int 0, .int 4, .int i1, .ref 381]) (h' := h9) (P := True) 5 rfl rfl trivial ?_
      refine wp_call (b := false) (y' := 197) (as := [.ref 381, .int i1, .int 4, .int 0]) (rest := []) (P := ((mxT 381).1 = mxRc 197 ∧ mxG h9)) rfl (by with_unfolding_all rfl) ⟨(congrArg Prod.fst sT_381), G11⟩ (Nat.le_of_ble_eq_true rfl) (sp_197 G11 o12 ?_)
      show mx_wp (d + 2) 260 26 [some (.ref 381), some (.int i1), some (.int (V_196 (mx_i h9 382) i1 (4 : Int32)))] [] (W_197 h9 i1 (4 : Int32) (0 : Int32)) Q
      obtain ⟨h13, e14⟩ : ∃ z9, z9 = W_197 h9 i1 (4 : Int32) (0 : Int32) := ⟨_, rfl⟩
      rw [← e14]
      have H := H h13 e14
      have K16 : mxK h9 h13 := e14 ▸ KW_197
      have G15 : mxG h13 := mxK_G K16 G11
      refine wp_steps (i' := 30) (ls' := [some (.ref 381), some (.int i1), some (.int (V_196 (mx_i h9 382) i1 (4 : Int32)))]) (st' := [.int 0, .int 5, .int i1, .ref 381]) (h' := h13) (P := True) 4 rfl rfl trivial ?_
      obtain ⟨o17, H⟩ := H
      refine wp_call (b := false) (y' := 197) (as := [.ref 381, .int i1, .int 5, .int 0]) (rest := []) (P := ((mxT 381).1 = mxRc 197 ∧ mxG h13)) rfl (by with_unfolding_all rfl) ⟨(congrArg Prod.fst sT_381), G15⟩ (Nat.le_of_ble_eq_true rfl) (sp_197 G15 o17 ?_)
      show mx_wp (d + 2) 260 31 [some (.ref 381), some (.int i1), some (.int (V_196 (mx_i h9 382) i1 (4 : Int32)))] [] (W_197 h13 i1 (5 : Int32) (0 : Int32)) Q
      obtain ⟨h18, e19⟩ : ∃ z9, z9 = W_197 h13 i1 (5 : Int32) (0 : Int32) := ⟨_, rfl⟩
      rw [← e19]
      have H := H h18 e19
      have K21 : mxK h13 h18 := e19 ▸ KW_197
      have G20 : mxG h18 := mxK_G K21 G15
      refine wp_steps (i' := 32) (ls' := [some (.ref 381), some (.int i1), some (.int (V_196 (mx_i h9 382) i1 (4 : Int32)))]) (st' := [.int (V_196 (mx_i h9 382) i1 (4 : Int32))]) (h' := h18) (P := True) 1 rfl rfl trivial ?_
      exact wp_end (o := .inl (some (.int (V_196 (mx_i h9 382) i1 (4 : Int32))))) (h' := h18) (P := True) rfl rfl trivial H
    · have c6 := Int32.not_le.mp c6
      have H := H.1 c6
      refine wp_steps (i' := 13) (ls' := [some (.ref 381), some (.int i1), none]) (st' := [.int 0]) (h' := h3) (P := True) 1 rfl rfl trivial ?_
      exact wp_end (o := .inl (some (.int 0))) (h' := h3) (P := True) rfl rfl trivial H
  refine wp_br (P := True) (c := ¬ (V_200 (mx_i h 382) i1) = 0) (t := 7) (st' := [.ref 381]) rfl rfl trivial (fun c22 => ?_) (fun c22 => ?_)
  · skip
    refine wp_steps (i' := 8) (ls' := [some (.ref 381), some (.int i1), none]) (st' := [.int 0, .ref 381]) (h' := h) (P := True) 1 rfl rfl trivial ?_
    exact J _ (by rw [if_neg c22])
  · have c22 := Decidable.of_not_not c22
    refine wp_steps (i' := 6) (ls' := [some (.ref 381), some (.int i1), none]) (st' := [.int 1, .ref 381]) (h' := h) (P := True) 1 rfl rfl trivial ?_
    refine wp_J (j := 8) (st' := [.int 1, .ref 381]) rfl rfl ?_
    exact J _ (by rw [if_pos c22])
/-! 284: StoneBacksModel.meet()I -/
def H_284_7 (d : Nat) (h : mxH) (i1 : Int32) (i2 : Int32) (Q : mxO → mxH → Prop) : Prop := mx_wp d 284 7 [some (.ref 381), some (.int i1), some (.int i2)] [] h Q
set_option maxRecDepth 8000 in
theorem tr_284_0 {d : Nat} {h : mxH} {Q : mxO → mxH → Prop}  (G : mxG h)  (H : (∀ h1, h1 = mx_wi h 381 0 0 → H_284_7 (d + 5) h1 (-1) 0 Q)) : mx_wp (d + 5) 284 0 (mx_fr 284 [.ref 381]) [] h Q := by
  show mx_wp (d + 5) 284 0 [some (.ref 381), none, none] [] h Q
  refine wp_steps (i' := 3) (ls' := [some (.ref 381), none, none]) (st' := []) (h' := mx_wi h 381 0 0) (P := ((mxT 381).1 = 11 ∧ mxG h) ∧ True) 3 rfl rfl ⟨⟨(congrArg Prod.fst sT_381), G⟩, trivial⟩ ?_
  obtain ⟨h1, e2⟩ : ∃ z9, z9 = mx_wi h 381 0 0 := ⟨_, rfl⟩
  rw [← e2]
  have H := H h1 e2
  have G3 : mxG h1 := e2 ▸ mxG_wi G
  refine wp_steps (i' := 7) (ls' := [some (.ref 381), some (.int (-1)), some (.int 0)]) (st' := []) (h' := h1) (P := True) 4 rfl rfl trivial ?_
  exact H 
set_option maxRecDepth 8000 in
theorem tr_284_7 {d : Nat} {h : mxH} {Q : mxO → mxH → Prop}  {i1 : Int32} {i2 : Int32} (G : mxG h)  (H : ((i2 < 12 → ((0 < (mx_i h 382 3) → (cB (mx_i h 382 3) 6 ∧ cB (mx_i h 382 4) 10 ∧ plOm (mx_i h 382) ∧ isI i2 12 ∧ ((((V_283 (mx_i h 382) i2) = (-1) → True) ∧ (¬ (V_283 (mx_i h 382) i2) = (-1) → ((i1 = (-1) → True) ∧ (¬ i1 = (-1) → (isI i1 12 ∧ True))))) ∧ (∀ (v7 : Int32), v7 = ((if (V_283 (mx_i h 382) i2) = (-1) then i1 else (if i1 = (-1) then i2 else (if (V_283 (mx_i h 382) i2) < (V_283 (mx_i h 382) i1) then i2 else i1))) : Int32) → H_284_7 (d + 5) h v7 (i2 + 1) Q)))) ∧ (¬ 0 < (mx_i h 382 3) → Q (.inl (some (.int i1))) h))) ∧ (¬ i2 < 12 → Q (.inl (some (.int i1))) h))) : H_284_7 (d + 5) h i1 i2 Q := by
  show mx_wp (d + 5) 284 7 [some (.ref 381), some (.int i1), some (.int i2)] [] h Q
  refine wp_steps (i' := 9) (ls' := [some (.ref 381), some (.int i1), some (.int i2)]) (st' := [.int 12, .int i2]) (h' := h) (P := True) 2 rfl rfl trivial ?_
  refine wp_br (P := True) (c := 12 ≤ i2) (t := 34) (st' := []) rfl rfl trivial (fun c1 => ?_) (fun c1 => ?_)
  · have c1 := Int32.not_lt.mpr c1
    have H := H.2 c1
    refine wp_steps (i' := 35) (ls' := [some (.ref 381), some (.int i1), some (.int i2)]) (st' := [.int i1]) (h' := h) (P := True) 1 rfl rfl trivial ?_
    exact wp_end (o := .inl (some (.int i1))) (h' := h) (P := True) rfl rfl trivial H
  · have c1 := Int32.not_le.mp c1
    have H := H.1 c1
    refine wp_steps (i' := 14) (ls' := [some (.ref 381), some (.int i1), some (.int i2)]) (st' := [.int (mx_i h 382 3)]) (h' := h) (P := ((mxT 381).1 = 11 ∧ mxG h) ∧ (((mxT 382).1 = 50 ∧ mxG h) ∧ vp_in 3 (mxT 382).2) ∧ True) 4 rfl rfl ⟨⟨(congrArg Prod.fst sT_381), G⟩, (cA sT_382 G (vpl rfl)), trivial⟩ ?_
    refine wp_br (P := True) (c := (mx_i h 382 3) ≤ 0) (t := 34) (st' := []) rfl rfl trivial (fun c2 => ?_) (fun c2 => ?_)
    · have c2 := Int32.not_lt.mpr c2
      have H := H.2 c2
      refine wp_steps (i' := 35) (ls' := [some (.ref 381), some (.int i1), some (.int i2)]) (st' := [.int i1]) (h' := h) (P := True) 1 rfl rfl trivial ?_
      exact wp_end (o := .inl (some (.int i1))) (h' := h) (P := True) rfl rfl trivial H
    · have c2 := Int32.not_le.mp c2
      have H := H.1 c2
      refine wp_steps (i' := 17) (ls' := [some (.ref 381), some (.int i1), some (.int i2)]) (st' := [.int i2, .ref 381]) (h' := h) (P := True) 2 rfl rfl trivial ?_
      obtain ⟨o3, o4, o5, o6, H⟩ := H
      refine wp_call (b := false) (y' := 283) (as := [.ref 381, .int i2]) (rest := []) (P := ((mxT 381).1 = mxRc 283 ∧ mxG h)) rfl (by with_unfolding_all rfl) ⟨(congrArg Prod.fst sT_381), G⟩ (Nat.le_of_ble_eq_true rfl) (sp_283 G o3 o4 o5 o6 ?_)
      show mx_wp (d + 5) 284 18 [some (.ref 381), some (.int i1), some (.int i2)] [.int (V_283 (mx_i h 382) i2)] h Q
      refine wp_steps (i' := 19) (ls' := [some (.ref 381), some (.int i1), some (.int i2)]) (st' := [.int (-1), .int (V_283 (mx_i h 382) i2)]) (h' := h) (P := True) 1 rfl rfl trivial ?_
      have J : ∀ (v7 : Int32) (ev7 : v7 = ((if (V_283 (mx_i h 382) i2) = (-1) then i1 else (if i1 = (-1) then i2 else (if (V_283 (mx_i h 382) i2) < (V_283 (mx_i h 382) i1) then i2 else i1))) : Int32)), mx_wp (d + 5) 284 32 [some (.ref 381), some (.int v7), some (.int i2)] [] h Q := by
        intro v7 ev7
        have H := H.2 v7 ev7
        refine wp_steps (i' := 33) (ls' := [some (.ref 381), some (.int v7), some (.int (i2 + 1))]) (st' := []) (h' := h) (P := True) 1 rfl rfl trivial ?_
        refine wp_J (j := 7) (st' := []) rfl rfl ?_
        exact H 
      have H := H.1
      refine wp_br (P := True) (c := (V_283 (mx_i h 382) i2) = (-1)) (t := 32) (st' := []) rfl rfl trivial (fun c8 => ?_) (fun c8 => ?_)
      · skip
        exact J _ (by rw [if_pos c8])
      · skip
        have H := H.2 c8
        refine wp_steps (i' := 22) (ls' := [some (.ref 381), some (.int i1), some (.int i2)]) (st' := [.int (-1), .int i1]) (h' := h) (P := True) 2 rfl rfl trivial ?_
        refine wp_br (P := True) (c := i1 = (-1)) (t := 30) (st' := []) rfl rfl trivial (fun c9 => ?_) (fun c9 => ?_)
        · skip
          refine wp_steps (i' := 32) (ls' := [some (.ref 381), some (.int i2), some (.int i2)]) (st' := []) (h' := h) (P := True) 2 rfl rfl trivial ?_
          exact J _ (by rw [if_neg c8, if_pos c9])
        · skip
          have H := H.2 c9
          refine wp_steps (i' := 25) (ls' := [some (.ref 381), some (.int i1), some (.int i2)]) (st' := [.int i2, .ref 381]) (h' := h) (P := True) 2 rfl rfl trivial ?_
          refine wp_call (b := false) (y' := 283) (as := [.ref 381, .int i2]) (rest := []) (P := ((mxT 381).1 = mxRc 283 ∧ mxG h)) rfl (by with_unfolding_all rfl) ⟨(congrArg Prod.fst sT_381), G⟩ (Nat.le_of_ble_eq_true rfl) (sp_283 G o3 o4 o5 o6 ?_)
          show mx_wp (d + 5) 284 26 [some (.ref 381), some (.int i1), some (.int i2)] [.int (V_283 (mx_i h 382) i2)] h Q
          refine wp_steps (i' := 28) (ls' := [some (.ref 381), some (.int i1), some (.int i2)]) (st' := [.int i1, .ref 381, .int (V_283 (mx_i h 382) i2)]) (h' := h) (P := True) 2 rfl rfl trivial ?_
          obtain ⟨o10, H⟩ := H
          refine wp_call (b := false) (y' := 283) (as := [.ref 381, .int i1]) (rest := [.int (V_283 (mx_i h 382) i2)]) (P := ((mxT 381).1 = mxRc 283 ∧ mxG h)) rfl (by with_unfolding_all rfl) ⟨(congrArg Prod.fst sT_381), G⟩ (Nat.le_of_ble_eq_true rfl) (sp_283 G o3 o4 o5 o10 ?_)
          show mx_wp (d + 5) 284 29 [some (.ref 381), some (.int i1), some (.int i2)] [.int (V_283 (mx_i h 382) i1), .int (V_283 (mx_i h 382) i2)] h Q
          refine wp_br (P := True) (c := (V_283 (mx_i h 382) i1) ≤ (V_283 (mx_i h 382) i2)) (t := 32) (st' := []) rfl rfl trivial (fun c11 => ?_) (fun c11 => ?_)
          · have c11 := Int32.not_lt.mpr c11
            exact J _ (by rw [if_neg c8, if_neg c9, if_neg c11])
          · have c11 := Int32.not_le.mp c11
            refine wp_steps (i' := 32) (ls' := [some (.ref 381), some (.int i2), some (.int i2)]) (st' := []) (h' := h) (P := True) 2 rfl rfl trivial ?_
            exact J _ (by rw [if_neg c8, if_neg c9, if_pos c11])
