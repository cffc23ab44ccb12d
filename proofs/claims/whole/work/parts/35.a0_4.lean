/-! 280: StoneBacksModel.cases()I -/
def H_280_19 (d : Nat) (h : mxH) (i1 : Int32) (i2 : Int32) (i3 : Int32) (Q : mxO → mxH → Prop) : Prop := ∀ (w4 : Option Value) (w5 : Option Value) (w6 : Option Value) (w7 : Option Value), mx_wp d 280 19 [some (.ref 381), some (.int i1), some (.int i2), some (.int i3), w4, w5, w6, w7] [] h Q
def H_280_77 (d : Nat) (h : mxH) (i1 : Int32) (i3 : Int32) (i4 : Int32) (Q : mxO → mxH → Prop) : Prop := ∀ (w2 : Option Value) (w5 : Option Value) (w6 : Option Value) (w7 : Option Value), mx_wp d 280 77 [some (.ref 381), some (.int i1), w2, some (.int i3), some (.int i4), w5, w6, w7] [] h Q
def H_280_106 (d : Nat) (h : mxH) (i1 : Int32) (i3 : Int32) (i4 : Int32) (i5 : Int32) (i6 : Int32) (i7 : Int32) (Q : mxO → mxH → Prop) : Prop := ∀ (w2 : Option Value), mx_wp d 280 106 [some (.ref 381), some (.int i1), w2, some (.int i3), some (.int i4), some (.int i5), some (.int i6), some (.int i7)] [] h Q
set_option maxRecDepth 8000 in
theorem tr_280_0 {d : Nat} {h : mxH} {Q : mxO → mxH → Prop}  (G : mxG h)  (H : (∀ h1, h1 = mx_wi h 381 8 0 → (∀ (v4 : Int32), v4 = ((if ((mx_i h 381 8) - (mx_i h 381 8) / 3 * 3) = 0 then (if 36 < (mx_i h 381 8) then 0 else 1) else 0) : Int32) → H_280_19 (d + 4) h1 (mx_i h 381 8) v4 0 Q))) : mx_wp (d + 4) 280 0 (mx_fr 280 [.ref 381]) [] h Q := by
  show mx_wp (d + 4) 280 0 [some (.ref 381), none, none, none, none, none, none, none] [] h Q
  refine wp_steps (i' := 6) (ls' := [some (.ref 381), some (.int (mx_i h 381 8)), none, none, none, none, none, none]) (st' := []) (h' := mx_wi h 381 8 0) (P := ((mxT 381).1 = 11 ∧ mxG h) ∧ ((mxT 381).1 = 11 ∧ mxG h) ∧ True) 6 rfl rfl ⟨⟨(congrArg Prod.fst sT_381), G⟩, ⟨(congrArg Prod.fst sT_381), G⟩, trivial⟩ ?_
  obtain ⟨h1, e2⟩ : ∃ z9, z9 = mx_wi h 381 8 0 := ⟨_, rfl⟩
  rw [← e2]
  have H := H h1 e2
  have G3 : mxG h1 := e2 ▸ mxG_wi G
  refine wp_steps (i' := 9) (ls' := [some (.ref 381), some (.int (mx_i h 381 8)), none, none, none, none, none, none]) (st' := [.int ((mx_i h 381 8) - (mx_i h 381 8) / 3 * 3)]) (h' := h1) (P := (¬ (3 : Int32) = 0) ∧ True) 3 rfl rfl ⟨(by decide), trivial⟩ ?_
  have J : ∀ (v4 : Int32) (ev4 : v4 = ((if ((mx_i h 381 8) - (mx_i h 381 8) / 3 * 3) = 0 then (if 36 < (mx_i h 381 8) then 0 else 1) else 0) : Int32)), mx_wp (d + 4) 280 16 [some (.ref 381), some (.int (mx_i h 381 8)), none, none, none, none, none, none] [.int v4] h1 Q := by
    intro v4 ev4
    have H := H v4 ev4
    refine wp_steps (i' := 19) (ls' := [some (.ref 381), some (.int (mx_i h 381 8)), some (.int v4), some (.int 0), none, none, none, none]) (st' := []) (h' := h1) (P := True) 3 rfl rfl trivial ?_
    exact H _ _ _ _
  refine wp_br (P := True) (c := ¬ ((mx_i h 381 8) - (mx_i h 381 8) / 3 * 3) = 0) (t := 15) (st' := []) rfl rfl trivial (fun c5 => ?_) (fun c5 => ?_)
  · skip
    refine wp_steps (i' := 16) (ls' := [some (.ref 381), some (.int (mx_i h 381 8)), none, none, none, none, none, none]) (st' := [.int 0]) (h' := h1) (P := True) 1 rfl rfl trivial ?_
    exact J _ (by rw [if_neg c5])
  · have c5 := Decidable.of_not_not c5
    refine wp_steps (i' := 12) (ls' := [some (.ref 381), some (.int (mx_i h 381 8)), none, none, none, none, none, none]) (st' := [.int 36, .int (mx_i h 381 8)]) (h' := h1) (P := True) 2 rfl rfl trivial ?_
    refine wp_br (P := True) (c := 36 < (mx_i h 381 8)) (t := 15) (st' := []) rfl rfl trivial (fun c6 => ?_) (fun c6 => ?_)
    · skip
      refine wp_steps (i' := 16) (ls' := [some (.ref 381), some (.int (mx_i h 381 8)), none, none, none, none, none, none]) (st' := [.int 0]) (h' := h1) (P := True) 1 rfl rfl trivial ?_
      exact J _ (by rw [if_pos c5, if_pos c6])
    · skip
      refine wp_steps (i' := 14) (ls' := [some (.ref 381), some (.int (mx_i h 381 8)), none, none, none, none, none, none]) (st' := [.int 1]) (h' := h1) (P := True) 1 rfl rfl trivial ?_
      refine wp_J (j := 16) (st' := [.int 1]) rfl rfl ?_
      exact J _ (by rw [if_pos c5, if_neg c6])
set_option maxRecDepth 8000 in
theorem tr_280_19 {d : Nat} {h : mxH} {Q : mxO → mxH → Prop}  {i1 : Int32} {i2 : Int32} {i3 : Int32} (G : mxG h)  (H : ((i3 < i1 → ((i2 = 0 → ((i2 = 0 → Q (.inl (some (.int (-1)))) h) ∧ (¬ i2 = 0 → H_280_77 (d + 4) h i1 0 0 Q))) ∧ (¬ i2 = 0 → (vp_in i3 400 ∧ ((((mx_i h 386 i3.toNatClampNeg) < (mx_i h 382 3) → (vp_in (i3 + 1) 400 ∧ (((mx_i h 386 (i3 + 1).toNatClampNeg) < (mx_i h 382 3) → (((mx_i h 386 i3.toNatClampNeg) = (mx_i h 386 (i3 + 1).toNatClampNeg) → True) ∧ (¬ (mx_i h 386 i3.toNatClampNeg) = (mx_i h 386 (i3 + 1).toNatClampNeg) → (vp_in (i3 + 2) 400 ∧ True)))) ∧ (¬ (mx_i h 386 (i3 + 1).toNatClampNeg) < (mx_i h 382 3) → True)))) ∧ (¬ (mx_i h 386 i3.toNatClampNeg) < (mx_i h 382 3) → True)) ∧ (∀ (v6 : Int32), v6 = ((if (mx_i h 386 i3.toNatClampNeg) < (mx_i h 382 3) then (if (mx_i h 386 (i3 + 1).toNatClampNeg) < (mx_i h 382 3) then (if (mx_i h 386 i3.toNatClampNeg) = (mx_i h 386 (i3 + 1).toNatClampNeg) then 0 else (if (mx_i h 386 (i3 + 2).toNatClampNeg) < 3 then 1 else 0)) else 0) else 0) : Int32) → H_280_19 (d + 4) h i1 v6 (i3 + 3) Q)))))) ∧ (¬ i3 < i1 → ((i2 = 0 → Q (.inl (some (.int (-1)))) h) ∧ (¬ i2 = 0 → H_280_77 (d + 4) h i1 0 0 Q))))) : H_280_19 (d + 4) h i1 i2 i3 Q := by
  intro w4 w5 w6 w7
  show mx_wp (d + 4) 280 19 [some (.ref 381), some (.int i1), some (.int i2), some (.int i3), w4, w5, w6, w7] [] h Q
  refine wp_steps (i' := 21) (ls' := [some (.ref 381), some (.int i1), some (.int i2), some (.int i3), w4, w5, w6, w7]) (st' := [.int i1, .int i3]) (h' := h) (P := True) 2 rfl rfl trivial ?_
  refine wp_br (P := True) (c := i1 ≤ i3) (t := 69) (st' := []) rfl rfl trivial (fun c1 => ?_) (fun c1 => ?_)
  · have c1 := Int32.not_lt.mpr c1
    have H := H.2 c1
    refine wp_steps (i' := 70) (ls' := [some (.ref 381), some (.int i1), some (.int i2), some (.int i3), w4, w5, w6, w7]) (st' := [.int i2]) (h' := h) (P := True) 1 rfl rfl trivial ?_
    refine wp_br (P := True) (c := ¬ i2 = 0) (t := 73) (st' := []) rfl rfl trivial (fun c2 => ?_) (fun c2 => ?_)
    · skip
      have H := H.2 c2
      refine wp_steps (i' := 77) (ls' := [some (.ref 381), some (.int i1), some (.int i2), some (.int 0), some (.int 0), w5, w6, w7]) (st' := []) (h' := h) (P := True) 4 rfl rfl trivial ?_
      exact H _ _ _ _
    · have c2 := Decidable.of_not_not c2
      have H := H.1 c2
      refine wp_steps (i' := 72) (ls' := [some (.ref 381), some (.int i1), some (.int i2), some (.int i3), w4, w5, w6, w7]) (st' := [.int (-1)]) (h' := h) (P := True) 1 rfl rfl trivial ?_
      exact wp_end (o := .inl (some (.int (-1)))) (h' := h) (P := True) rfl rfl trivial H
  · have c1 := Int32.not_le.mp c1
    have H := H.1 c1
    refine wp_steps (i' := 23) (ls' := [some (.ref 381), some (.int i1), some (.int i2), some (.int i3), w4, w5, w6, w7]) (st' := [.int i2]) (h' := h) (P := True) 1 rfl rfl trivial ?_
    refine wp_br (P := True) (c := i2 = 0) (t := 69) (st' := []) rfl rfl trivial (fun c3 => ?_) (fun c3 => ?_)
    · skip
      have H := H.1 c3
      refine wp_steps (i' := 70) (ls' := [some (.ref 381), some (.int i1), some (.int i2), some (.int i3), w4, w5, w6, w7]) (st' := [.int i2]) (h' := h) (P := True) 1 rfl rfl trivial ?_
      refine wp_br (P := True) (c := ¬ i2 = 0) (t := 73) (st' := []) rfl rfl trivial (fun c4 => ?_) (fun c4 => ?_)
      · skip
        have H := H.2 c4
        refine wp_steps (i' := 77) (ls' := [some (.ref 381), some (.int i1), some (.int i2), some (.int 0), some (.int 0), w5, w6, w7]) (st' := []) (h' := h) (P := True) 4 rfl rfl trivial ?_
        exact H _ _ _ _
      · have c4 := Decidable.of_not_not c4
        have H := H.1 c4
        refine wp_steps (i' := 72) (ls' := [some (.ref 381), some (.int i1), some (.int i2), some (.int i3), w4, w5, w6, w7]) (st' := [.int (-1)]) (h' := h) (P := True) 1 rfl rfl trivial ?_
        exact wp_end (o := .inl (some (.int (-1)))) (h' := h) (P := True) rfl rfl trivial H
    · skip
      have H := H.2 c3
      obtain ⟨o5, H⟩ := H
      refine wp_steps (i' := 32) (ls' := [some (.ref 381), some (.int i1), some (.int i2), some (.int i3), w4, w5, w6, w7]) (st' := [.int (mx_i h 382 3), .int (mx_i h 386 i3.toNatClampNeg)]) (h' := h) (P := ((mxT 381).1 = 11 ∧ mxG h) ∧ (((mxT 386).1 = 50 ∧ mxG h) ∧ vp_in i3 (mxT 386).2) ∧ ((mxT 381).1 = 11 ∧ mxG h) ∧ (((mxT 382).1 = 50 ∧ mxG h) ∧ vp_in 3 (mxT 382).2) ∧ True) 8 rfl rfl ⟨⟨(congrArg Prod.fst sT_381), G⟩, (cA sT_386 G o5), ⟨(congrArg Prod.fst sT_381), G⟩, (cA sT_382 G (vpl rfl)), trivial⟩ ?_
      have J : ∀ (v6 : Int32) (ev6 : v6 = ((if (mx_i h 386 i3.toNatClampNeg) < (mx_i h 382 3) then (if (mx_i h 386 (i3 + 1).toNatClampNeg) < (mx_i h 382 3) then (if (mx_i h 386 i3.toNatClampNeg) = (mx_i h 386 (i3 + 1).toNatClampNeg) then 0 else (if (mx_i h 386 (i3 + 2).toNatClampNeg) < 3 then 1 else 0)) else 0) else 0) : Int32)), mx_wp (d + 4) 280 66 [some (.ref 381), some (.int i1), some (.int i2), some (.int i3), w4, w5, w6, w7] [.int v6] h Q := by
        intro v6 ev6
        have H := H.2 v6 ev6
        refine wp_steps (i' := 68) (ls' := [some (.ref 381), some (.int i1), some (.int v6), some (.int (i3 + 3)), w4, w5, w6, w7]) (st' := []) (h' := h) (P := True) 2 rfl rfl trivial ?_
        refine wp_J (j := 19) (st' := []) rfl rfl ?_
        exact H _ _ _ _
      have H := H.1
      refine wp_br (P := True) (c := (mx_i h 382 3) ≤ (mx_i h 386 i3.toNatClampNeg)) (t := 65) (st' := []) rfl rfl trivial (fun c7 => ?_) (fun c7 => ?_)
      · have c7 := Int32.not_lt.mpr c7
        refine wp_steps (i' := 66) (ls' := [some (.ref 381), some (.int i1), some (.int i2), some (.int i3), w4, w5, w6, w7]) (st' := [.int 0]) (h' := h) (P := True) 1 rfl rfl trivial ?_
        exact J _ (by rw [if_neg c7])
      · have c7 := Int32.not_le.mp c7
        have H := H.1 c7
        obtain ⟨o8, H⟩ := H
        refine wp_steps (i' := 43) (ls' := [some (.ref 381), some (.int i1), some (.int i2), some (.int i3), w4, w5, w6, w7]) (st' := [.int (mx_i h 382 3), .int (mx_i h 386 (i3 + 1).toNatClampNeg)]) (h' := h) (P := ((mxT 381).1 = 11 ∧ mxG h) ∧ (((mxT 386).1 = 50 ∧ mxG h) ∧ vp_in (i3 + 1) (mxT 386).2) ∧ ((mxT 381).1 = 11 ∧ mxG h) ∧ (((mxT 382).1 = 50 ∧ mxG h) ∧ vp_in 3 (mxT 382).2) ∧ True) 10 rfl rfl ⟨⟨(congrArg Prod.fst sT_381), G⟩, (cA sT_386 G o8), ⟨(congrArg Prod.fst sT_381), G⟩, (cA sT_382 G (vpl rfl)), trivial⟩ ?_
        refine wp_br (P := True) (c := (mx_i h 382 3) ≤ (mx_i h 386 (i3 + 1).toNatClampNeg)) (t := 65) (st' := []) rfl rfl trivial (fun c9 => ?_) (fun c9 => ?_)
        · have c9 := Int32.not_lt.mpr c9
          refine wp_steps (i' := 66) (ls' := [some (.ref 381), some (.int i1), some (.int i2), some (.int i3), w4, w5, w6, w7]) (st' := [.int 0]) (h' := h) (P := True) 1 rfl rfl trivial ?_
          exact J _ (by rw [if_pos c7, if_neg c9])
        · have c9 := Int32.not_le.mp c9
          have H := H.1 c9
          refine wp_steps (i' := 54) (ls' := [some (.ref 381), some (.int i1), some (.int i2), some (.int i3), w4, w5, w6, w7]) (st' := [.int (mx_i h 386 (i3 + 1).toNatClampNeg), .int (mx_i h 386 i3.toNatClampNeg)]) (h' := h) (P := ((mxT 381).1 = 11 ∧ mxG h) ∧ (((mxT 386).1 = 50 ∧ mxG h) ∧ vp_in i3 (mxT 386).2) ∧ ((mxT 381).1 = 11 ∧ mxG h) ∧ (((mxT 386).1 = 50 ∧ mxG h) ∧ vp_in (i3 + 1) (mxT 386).2) ∧ True) 10 rfl rfl ⟨⟨(congrArg Prod.fst sT_381), G⟩, (cA sT_386 G o5), ⟨(congrArg Prod.fst sT_381), G⟩, (cA sT_386 G o8), trivial⟩ ?_
          refine wp_br (P := True) (c := (mx_i h 386 i3.toNatClampNeg) = (mx_i h 386 (i3 + 1).toNatClampNeg)) (t := 65) (st' := []) rfl rfl trivial (fun c10 => ?_) (fun c10 => ?_)
          · skip
            refine wp_steps (i' := 66) (ls' := [some (.ref 381), some (.int i1), some (.int i2), some (.int i3), w4, w5, w6, w7]) (st' := [.int 0]) (h' := h) (P := True) 1 rfl rfl trivial ?_
            exact J _ (by rw [if_pos c7, if_pos c9, if_pos c10])
          · skip
            have H := H.2 c10
            obtain ⟨o11, H⟩ := H
            refine wp_steps (i' := 62) (ls' := [some (.ref 381), some (.int i1), some (.int i2), some (.int i3), w4, w5, w6, w7]) (st' := [.int 3, .int (mx_i h 386 (i3 + 2).toNatClampNeg)]) (h' := h) (P := ((mxT 381).1 = 11 ∧ mxG h) ∧ (((mxT 386).1 = 50 ∧ mxG h) ∧ vp_in (i3 + 2) (mxT 386).2) ∧ True) 7 rfl rfl ⟨⟨(congrArg Prod.fst sT_381), G⟩, (cA sT_386 G o11), trivial⟩ ?_
            refine wp_br (P := True) (c := 3 ≤ (mx_i h 386 (i3 + 2).toNatClampNeg)) (t := 65) (st' := []) rfl rfl trivial (fun c12 => ?_) (fun c12 => ?_)
            · have c12 := Int32.not_lt.mpr c12
              refine wp_steps (i' := 66) (ls' := [some (.ref 381), some (.int i1), some (.int i2), some (.int i3), w4, w5, w6, w7]) (st' := [.int 0]) (h' := h) (P := True) 1 rfl rfl trivial ?_
              exact J _ (by rw [if_pos c7, if_pos c9, if_neg c10, if_neg c12])
            · have c12 := Int32.not_le.mp c12
              refine wp_steps (i' := 64) (ls' := [some (.ref 381), some (.int i1), some (.int i2), some (.int i3), w4, w5, w6, w7]) (st' := [.int 1]) (h' := h) (P := True) 1 rfl rfl trivial ?_
              refine wp_J (j := 66) (st' := [.int 1]) rfl rfl ?_
              exact J _ (by rw [if_pos c7, if_pos c9, if_neg c10, if_pos c12])
set_option maxRecDepth 8000 in
theorem tr_280_77 {d : Nat} {h : mxH} {Q : mxO → mxH → Prop}  {i1 : Int32} {i3 : Int32} {i4 : Int32} (G : mxG h)  (H : (((mx_i h 382 4) < i4 → Q (.inl (some (.int i3))) h) ∧ (¬ (mx_i h 382 4) < i4 → (∀ (v2 : Int32), v2 = ((if i4 = (mx_i h 382 4) then 1 else 0) : Int32) → (((v2 = 0 → (vp_in ((69 + (6 * i4)) + (3 : Int32)) 769 ∧ True)) ∧ (¬ v2 = 0 → True)) ∧ (∀ (v3 : Int32), v3 = ((if v2 = 0 then (if (V_198 (mx_i h 382) i4 (3 : Int32)) = 0 then 1 else 0) else 1) : Int32) → H_280_106 (d + 4) h i1 i3 i4 v2 v3 0 Q)))))) : H_280_77 (d + 4) h i1 i3 i4 Q := by
  intro w2 w5 w6 w7
  show mx_wp (d + 4) 280 77 [some (.ref 381), some (.int i1), w2, some (.int i3), some (.int i4), w5, w6, w7] [] h Q
  refine wp_steps (i' := 82) (ls' := [some (.ref 381), some (.int i1), w2, some (.int i3), some (.int i4), w5, w6, w7]) (st' := [.int (mx_i h 382 4), .int i4]) (h' := h) (P := ((mxT 381).1 = 11 ∧ mxG h) ∧ (((mxT 382).1 = 50 ∧ mxG h) ∧ vp_in 4 (mxT 382).2) ∧ True) 5 rfl rfl ⟨⟨(congrArg Prod.fst sT_381), G⟩, (cA sT_382 G (vpl rfl)), trivial⟩ ?_
  refine wp_br (P := True) (c := (mx_i h 382 4) < i4) (t := 157) (st' := []) rfl rfl trivial (fun c1 => ?_) (fun c1 => ?_)
  · skip
    have H := H.1 c1
    refine wp_steps (i' := 158) (ls' := [some (.ref 381), some (.int i1), w2, some (.int i3), some (.int i4), w5, w6, w7]) (st' := [.int i3]) (h' := h) (P := True) 1 rfl rfl trivial ?_
    exact wp_end (o := .inl (some (.int i3))) (h' := h) (P := True) rfl rfl trivial H
  · skip
    have H := H.2 c1
    refine wp_steps (i' := 88) (ls' := [some (.ref 381), some (.int i1), w2, some (.int i3), some (.int i4), w5, w6, w7]) (st' := [.int (mx_i h 382 4), .int i4]) (h' := h) (P := ((mxT 381).1 = 11 ∧ mxG h) ∧ (((mxT 382).1 = 50 ∧ mxG h) ∧ vp_in 4 (mxT 382).2) ∧ True) 5 rfl rfl ⟨⟨(congrArg Prod.fst sT_381), G⟩, (cA sT_382 G (vpl rfl)), trivial⟩ ?_
    have J : ∀ (v2 : Int32) (ev2 : v2 = ((if i4 = (mx_i h 382 4) then 1 else 0) : Int32)), mx_wp (d + 4) 280 92 [some (.ref 381), some (.int i1), w2, some (.int i3), some (.int i4), w5, w6, w7] [.int v2] h Q := by
      intro v2 ev2
      have H := H v2 ev2
      refine wp_steps (i' := 94) (ls' := [some (.ref 381), some (.int i1), w2, some (.int i3), some (.int i4), some (.int v2), w6, w7]) (st' := [.int v2]) (h' := h) (P := True) 2 rfl rfl trivial ?_
      have J : ∀ (v3 : Int32) (ev3 : v3 = ((if v2 = 0 then (if (V_198 (mx_i h 382) i4 (3 : Int32)) = 0 then 1 else 0) else 1) : Int32)), mx_wp (d + 4) 280 103 [some (.ref 381), some (.int i1), w2, some (.int i3), some (.int i4), some (.int v2), w6, w7] [.int v3] h Q := by
        intro v3 ev3
        have H := H.2 v3 ev3
        refine wp_steps (i' := 106) (ls' := [some (.ref 381), some (.int i1), w2, some (.int i3), some (.int i4), some (.int v2), some (.int v3), some (.int 0)]) (st' := []) (h' := h) (P := True) 3 rfl rfl trivial ?_
        exact H _
      have H := H.1
      refine wp_br (P := True) (c := ¬ v2 = 0) (t := 100) (st' := []) rfl rfl trivial (fun c4 => ?_) (fun c4 => ?_)
      · skip
        refine wp_steps (i' := 101) (ls' := [some (.ref 381), some (.int i1), w2, some (.int i3), some (.int i4), some (.int v2), w6, w7]) (st' := [.int 1]) (h' := h) (P := True) 1 rfl rfl trivial ?_
        refine wp_J (j := 103) (st' := [.int 1]) rfl rfl ?_
        exact J _ (by rw [if_neg c4])
      · have c4 := Decidable.of_not_not c4
        have H := H.1 c4
        refine wp_steps (i' := 98) (ls' := [some (.ref 381), some (.int i1), w2, some (.int i3), some (.int i4), some (.int v2), w6, w7]) (st' := [.int 3, .int i4, .ref 381]) (h' := h) (P := True) 3 rfl rfl trivial ?_
        obtain ⟨o5, H⟩ := H
        refine wp_call (b := false) (y' := 198) (as := [.ref 381, .int i4, .int 3]) (rest := []) (P := ((mxT 381).1 = mxRc 198 ∧ mxG h)) rfl (by with_unfolding_all rfl) ⟨(congrArg Prod.fst sT_381), G⟩ (Nat.le_of_ble_eq_true rfl) (sp_198 G o5 ?_)
        show mx_wp (d + 4) 280 99 [some (.ref 381), some (.int i1), w2, some (.int i3), some (.int i4), some (.int v2), w6, w7] [.int (V_198 (mx_i h 382) i4 (3 : Int32))] h Q
        refine wp_br (P := True) (c := ¬ (V_198 (mx_i h 382) i4 (3 : Int32)) = 0) (t := 102) (st' := []) rfl rfl trivial (fun c6 => ?_) (fun c6 => ?_)
        · skip
          refine wp_steps (i' := 103) (ls' := [some (.ref 381), some (.int i1), w2, some (.int i3), some (.int i4), some (.int v2), w6, w7]) (st' := [.int 0]) (h' := h) (P := True) 1 rfl rfl trivial ?_
          exact J _ (by rw [if_pos c4, if_neg c6])
        · have c6 := Decidable.of_not_not c6
          refine wp_steps (i' := 101) (ls' := [some (.ref 381), some (.int i1), w2, some (.int i3), some (.int i4), some (.int v2), w6, w7]) (st' := [.int 1]) (h' := h) (P := True) 1 rfl rfl trivial ?_
          refine wp_J (j := 103) (st' := [.int 1]) rfl rfl ?_
          exact J _ (by rw [if_pos c4, if_pos c6])
    refine wp_br (P := True) (c := ¬ i4 = (mx_i h 382 4)) (t := 91) (st' := []) rfl rfl trivial (fun c7 => ?_) (fun c7 => ?_)
    · skip
      refine wp_steps (i' := 92) (ls' := [some (.ref 381), some (.int i1), w2, some (.int i3), some (.int i4), w5, w6, w7]) (st' := [.int 0]) (h' := h) (P := True) 1 rfl rfl trivial ?_
      exact J _ (by rw [if_neg c7])
    · have c7 := Decidable.of_not_not c7
      refine wp_steps (i' := 90) (ls' := [some (.ref 381), some (.int i1), w2, some (.int i3), some (.int i4), w5, w6, w7]) (st' := [.int 1]) (h' := h) (P := True) 1 rfl rfl trivial ?_
      refine wp_J (j := 92) (st' := [.int 1]) rfl rfl ?_
      exact J _ (by rw [if_pos c7])
set_option maxRecDepth 8000 in
theorem tr_280_106 {d : Nat} {h : mxH} {Q : mxO → mxH → Prop}  {i1 : Int32} {i3 : Int32} {i4 : Int32} {i5 : Int32} {i6 : Int32} {i7 : Int32} (G : mxG h)  (H : ((i7 < i1 → ((i6 = 0 → (∀ (v6 : Int32), v6 = ((if i6 = 0 then 0 else (if i5 = 0 then ((1 : Int32) <<< (i4 &&& 31)) else ((1 : Int32) <<< (10 &&& 31)))) : Int32) → H_280_77 (d + 4) h i1 (i3 ||| v6) (i4 + 1) Q)) ∧ (¬ i6 = 0 → (vp_in i7 400 ∧ vp_in (i7 + 1) 400 ∧ (∀ (v11 : Int32), v11 = ((if i5 = 0 then i4 else (-1)) : Int32) → (cB (mx_i h 382 4) 10 ∧ ((v11 = (-1) → True) ∧ (¬ v11 = (-1) → (vp_in ((69 + (6 * v11)) + (2 : Int32)) 769 ∧ (vp_in ((69 + (6 * v11)) + (4 : Int32)) 769 ∧ True)))) ∧ (vp_in (i7 + 2) 400 ∧ (∀ (v15 : Int32), v15 = ((if (V_279 (mx_i h 382) (mx_i h 386 i7.toNatClampNeg) (mx_i h 386 (i7 + 1).toNatClampNeg) v11) = (mx_i h 386 (i7 + 2).toNatClampNeg) then 1 else 0) : Int32) → H_280_106 (d + 4) h i1 i3 i4 i5 v15 (i7 + 3) Q)))))))) ∧ (¬ i7 < i1 → (∀ (v2 : Int32), v2 = ((if i6 = 0 then 0 else (if i5 = 0 then ((1 : Int32) <<< (i4 &&& 31)) else ((1 : Int32) <<< (10 &&& 31)))) : Int32) → H_280_77 (d + 4) h i1 (i3 ||| v2) (i4 + 1) Q)))) : H_280_106 (d + 4) h i1 i3 i4 i5 i6 i7 Q := by
  intro w2
  show mx_wp (d + 4) 280 106 [some (.ref 381), some (.int i1), w2, some (.int i3), some (.int i4), some (.int i5), some (.int i6), some (.int i7)] [] h Q
  refine wp_steps (i' := 108) (ls' := [some (.ref 381), some (.int i1), w2, some (.int i3), some (.int i4), some (.int i5), some (.int i6), some (.int i7)]) (st' := [.int i1, .int i7]) (h' := h) (P := True) 2 rfl rfl trivial ?_
  refine wp_br (P := True) (c := i1 ≤ i7) (t := 141) (st' := []) rfl rfl trivial (fun c1 => ?_) (fun c1 => ?_)
  · have c1 := Int32.not_lt.mpr c1
    have H := H.2 c1
    refine wp_steps (i' := 143) (ls' := [some (.ref 381), some (.int i1), w2, some (.int i3), some (.int i4), some (.int i5), some (.int i6), some (.int i7)]) (st' := [.int i6, .int i3]) (h' := h) (P := True) 2 rfl rfl trivial ?_
    have J : ∀ (v2 : Int32) (ev2 : v2 = ((if i6 = 0 then 0 else (if i5 = 0 then ((1 : Int32) <<< (i4 &&& 31)) else ((1 : Int32) <<< (10 &&& 31)))) : Int32)), mx_wp (d + 4) 280 153 [some (.ref 381), some (.int i1), w2, some (.int i3), some (.int i4), some (.int i5), some (.int i6), some (.int i7)] [.int v2, .int i3] h Q := by
      intro v2 ev2
      have H := H v2 ev2
      refine wp_steps (i' := 156) (ls' := [some (.ref 381), some (.int i1), w2, some (.int (i3 ||| v2)), some (.int (i4 + 1)), some (.int i5), some (.int i6), some (.int i7)]) (st' := []) (h' := h) (P := True) 3 rfl rfl trivial ?_
      refine wp_J (j := 77) (st' := []) rfl rfl ?_
      exact H _ _ _ _
    refine wp_br (P := True) (c := i6 = 0) (t := 152) (st' := [.int i3]) rfl rfl trivial (fun c3 => ?_) (fun c3 => ?_)
    · skip
      refine wp_steps (i' := 153) (ls' := [some (.ref 381), some (.int i1), w2, some (.int i3), some (.int i4), some (.int i5), some (.int i6), some (.int i7)]) (st' := [.int 0, .int i3]) (h' := h) (P := True) 1 rfl rfl trivial ?_
      exact J _ (by rw [if_pos c3])
    · skip
      refine wp_steps (i' := 146) (ls' := [some (.ref 381), some (.int i1), w2, some (.int i3), some (.int i4), some (.int i5), some (.int i6), some (.int i7)]) (st' := [.int i5, .int 1, .int i3]) (h' := h) (P := True) 2 rfl rfl trivial ?_
      refine wp_br (P := True) (c := i5 = 0) (t := 149) (st' := [.int 1, .int i3]) rfl rfl trivial (fun c4 => ?_) (fun c4 => ?_)
      · skip
        refine wp_steps (i' := 151) (ls' := [some (.ref 381), some (.int i1), w2, some (.int i3), some (.int i4), some (.int i5), some (.int i6), some (.int i7)]) (st' := [.int ((1 : Int32) <<< (i4 &&& 31)), .int i3]) (h' := h) (P := True) 2 rfl rfl trivial ?_
        refine wp_J (j := 153) (st' := [.int ((1 : Int32) <<< (i4 &&& 31)), .int i3]) rfl rfl ?_
        exact J _ (by rw [if_neg c3, if_pos c4])
      · skip
        refine wp_steps (i' := 148) (ls' := [some (.ref 381), some (.int i1), w2, some (.int i3), some (.int i4), some (.int i5), some (.int i6), some (.int i7)]) (st' := [.int 10, .int 1, .int i3]) (h' := h) (P := True) 1 rfl rfl trivial ?_
        refine wp_J (j := 150) (st' := [.int 10, .int 1, .int i3]) rfl rfl ?_
        refine wp_steps (i' := 151) (ls' := [some (.ref 381), some (.int i1), w2, some (.int i3), some (.int i4), some (.int i5), some (.int i6), some (.int i7)]) (st' := [.int ((1 : Int32) <<< (10 &&& 31)), .int i3]) (h' := h) (P := True) 1 rfl rfl trivial ?_
        refine wp_J (j := 153) (st' := [.int ((1 : Int32) <<< (10 &&& 31)), .int i3]) rfl rfl ?_
        exact J _ (by rw [if_neg c3, if_neg c4])
  · have c1 := Int32.not_le.mp c1
    have H := H.1 c1
    refine wp_steps (i' := 110) (ls' := [some (.ref 381), some (.int i1), w2, some (.int i3), some (.int i4), some (.int i5), some (.int i6), some (.int i7)]) (st' := [.int i6]) (h' := h) (P := True) 1 rfl rfl trivial ?_
    refine wp_br (P := True) (c := i6 = 0) (t := 141) (st' := []) rfl rfl trivial (fun c5 => ?_) (fun c5 => ?_)
    · skip
      have H := H.1 c5
      refine wp_steps (i' := 143) (ls' := [some (.ref 381), some (.int i1), w2, some (.int i3), some (.int i4), some (.int i5), some (.int i6), some (.int i7)]) (st' := [.int i6, .int i3]) (h' := h) (P := True) 2 rfl rfl trivial ?_
      have J : ∀ (v6 : Int32) (ev6 : v6 = ((if i6 = 0 then 0 else (if i5 = 0 then ((1 : Int32) <<< (i4 &&& 31)) else ((1 : Int32) <<< (10 &&& 31)))) : Int32)), mx_wp (d + 4) 280 153 [some (.ref 381), some (.int i1), w2, some (.int i3), some (.int i4), some (.int i5), some (.int i6), some (.int i7)] [.int v6, .int i3] h Q := by
        intro v6 ev6
        have H := H v6 ev6
        refine wp_steps (i' := 156) (ls' := [some (.ref 381), some (.int i1), w2, some (.int (i3 ||| v6)), some (.int (i4 + 1)), some (.int i5), some (.int i6), some (.int i7)]) (st' := []) (h' := h) (P := True) 3 rfl rfl trivial ?_
        refine wp_J (j := 77) (st' := []) rfl rfl ?_
        exact H _ _ _ _
      refine wp_br (P := True) (c := i6 = 0) (t := 152) (st' := [.int i3]) rfl rfl trivial (fun c7 => ?_) (fun c7 => ?_)
      · skip
        refine wp_steps (i' := 153) (ls' := [some (.ref 381), some (.int i1), w2, some (.int i3), some (.int i4), some (.int i5), some (.int i6), some (.int i7)]) (st' := [.int 0, .int i3]) (h' := h) (P := True) 1 rfl rfl trivial ?_
        exact J _ (by rw [if_pos c7])
      · skip
        refine wp_steps (i' := 146) (ls' := [some (.ref 381), some (.int i1), w2, some (.int i3), some (.int i4), some (.int i5), some (.int i6), some (.int i7)]) (st' := [.int i5, .int 1, .int i3]) (h' := h) (P := True) 2 rfl rfl trivial ?_
        refine wp_br (P := True) (c := i5 = 0) (t := 149) (st' := [.int 1, .int i3]) rfl rfl trivial (fun c8 => ?_) (fun c8 => ?_)
        · skip
          refine wp_steps (i' := 151) (ls' := [some (.ref 381), some (.int i1), w2, some (.int i3), some (.int i4), some (.int i5), some (.int i6), some (.int i7)]) (st' := [.int ((1 : Int32) <<< (i4 &&& 31)), .int i3]) (h' := h) (P := True) 2 rfl rfl trivial ?_
          refine wp_J (j := 153) (st' := [.int ((1 : Int32) <<< (i4 &&& 31)), .int i3]) rfl rfl ?_
          exact J _ (by rw [if_neg c7, if_pos c8])
        · skip
          refine wp_steps (i' := 148) (ls' := [some (.ref 381), some (.int i1), w2, some (.int i3), some (.int i4), some (.int i5), some (.int i6), some (.int i7)]) (st' := [.int 10, .int 1, .int i3]) (h' := h) (P := True) 1 rfl rfl trivial ?_
          refine wp_J (j := 150) (st' := [.int 10, .int 1, .int i3]) rfl rfl ?_
          refine wp_steps (i' := 151) (ls' := [some (.ref 381), some (.int i1), w2, some (.int i3), some (.int i4), some (.int i5), some (.int i6), some (.int i7)]) (st' := [.int ((1 : Int32) <<< (10 &&& 31)), .int i3]) (h' := h) (P := True) 1 rfl rfl trivial ?_
          refine wp_J (j := 153) (st' := [.int ((1 : Int32) <<< (10 &&& 31)), .int i3]) rfl rfl ?_
          exact J _ (by rw [if_neg c7, if_neg c8])
    · skip
      have H := H.2 c5
      obtain ⟨o9, o10, H⟩ := H
      refine wp_steps (i' := 123) (ls' := [some (.ref 381), some (.int i1), w2, some (.int i3), some (.int i4), some (.int i5), some (.int i6), some (.int i7)]) (st' := [.int i5, .int (mx_i h 386 (i7 + 1).toNatClampNeg), .int (mx_i h 386 i7.toNatClampNeg), .ref 381]) (h' := h) (P := ((mxT 381).1 = 11 ∧ mxG h) ∧ (((mxT 386).1 = 50 ∧ mxG h) ∧ vp_in i7 (mxT 386).2) ∧ ((mxT 381).1 = 11 ∧ mxG h) ∧ (((mxT 386).1 = 50 ∧ mxG h) ∧ vp_in (i7 + 1) (mxT 386).2) ∧ True) 12 rfl rfl ⟨⟨(congrArg Prod.fst sT_381), G⟩, (cA sT_386 G o9), ⟨(congrArg Prod.fst sT_381), G⟩, (cA sT_386 G o10), trivial⟩ ?_
      have J : ∀ (v11 : Int32) (ev11 : v11 = ((if i5 = 0 then i4 else (-1)) : Int32)), mx_wp (d + 4) 280 127 [some (.ref 381), some (.int i1), w2, some (.int i3), some (.int i4), some (.int i5), some (.int i6), some (.int i7)] [.int v11, .int (mx_i h 386 (i7 + 1).toNatClampNeg), .int (mx_i h 386 i7.toNatClampNeg), .ref 381] h Q := by
        intro v11 ev11
        have H := H v11 ev11
        obtain ⟨o12, o13, H⟩ := H
        refine wp_call (b := false) (y' := 279) (as := [.ref 381, .int (mx_i h 386 i7.toNatClampNeg), .int (mx_i h 386 (i7 + 1).toNatClampNeg), .int v11]) (rest := []) (P := ((mxT 381).1 = mxRc 279 ∧ mxG h)) rfl (by with_unfolding_all rfl) ⟨(congrArg Prod.fst sT_381), G⟩ (Nat.le_of_ble_eq_true rfl) (sp_279 G o12 o13 ?_)
        show mx_wp (d + 4) 280 128 [some (.ref 381), some (.int i1), w2, some (.int i3), some (.int i4), some (.int i5), some (.int i6), some (.int i7)] [.int (V_279 (mx_i h 382) (mx_i h 386 i7.toNatClampNeg) (mx_i h 386 (i7 + 1).toNatClampNeg) v11)] h Q
        obtain ⟨o14, H⟩ := H
        refine wp_steps (i' := 134) (ls' := [some (.ref 381), some (.int i1), w2, some (.int i3), some (.int i4), some (.int i5), some (.int i6), some (.int i7)]) (st' := [.int (mx_i h 386 (i7 + 2).toNatClampNeg), .int (V_279 (mx_i h 382) (mx_i h 386 i7.toNatClampNeg) (mx_i h 386 (i7 + 1).toNatClampNeg) v11)]) (h' := h) (P := ((mxT 381).1 = 11 ∧ mxG h) ∧ (((mxT 386).1 = 50 ∧ mxG h) ∧ vp_in (i7 + 2) (mxT 386).2) ∧ True) 6 rfl rfl ⟨⟨(congrArg Prod.fst sT_381), G⟩, (cA sT_386 G o14), trivial⟩ ?_
        have J : ∀ (v15 : Int32) (ev15 : v15 = ((if (V_279 (mx_i h 382) (mx_i h 386 i7.toNatClampNeg) (mx_i h 386 (i7 + 1).toNatClampNeg) v11) = (mx_i h 386 (i7 + 2).toNatClampNeg) then 1 else 0) : Int32)), mx_wp (d + 4) 280 138 [some (.ref 381), some (.int i1), w2, some (.int i3), some (.int i4), some (.int i5), some (.int i6), some (.int i7)] [.int v15] h Q := by
          intro v15 ev15
          have H := H v15 ev15
          refine wp_steps (i' := 140) (ls' := [some (.ref 381), some (.int i1), w2, some (.int i3), some (.int i4), some (.int i5), some (.int v15), some (.int (i7 + 3))]) (st' := []) (h' := h) (P := True) 2 rfl rfl trivial ?_
          refine wp_J (j := 106) (st' := []) rfl rfl ?_
          exact H _
        refine wp_br (P := True) (c := ¬ (V_279 (mx_i h 382) (mx_i h 386 i7.toNatClampNeg) (mx_i h 386 (i7 + 1).toNatClampNeg) v11) = (mx_i h 386 (i7 + 2).toNatClampNeg)) (t := 137) (st' := []) rfl rfl trivial (fun c16 => ?_) (fun c16 => ?_)
        · skip
          refine wp_steps (i' := 138) (ls' := [some (.ref 381), some (.int i1), w2, some (.int i3), some (.int i4), some (.int i5), some (.int i6), some (.int i7)]) (st' := [.int 0]) (h' := h) (P := True) 1 rfl rfl trivial ?_
          exact J _ (by rw [if_neg c16])
        · have c16 := Decidable.of_not_not c16
          refine wp_steps (i' := 136) (ls' := [some (.ref 381), some (.int i1), w2, some (.int i3), some (.int i4), some (.int i5), some (.int i6), some (.int i7)]) (st' := [.int 1]) (h' := h) (P := True) 1 rfl rfl trivial ?_
          refine wp_J (j := 138) (st' := [.int 1]) rfl rfl ?_
          exact J _ (by rw [if_pos c16])
      refine wp_br (P := True) (c := i5 = 0) (t := 126) (st' := [.int (mx_i h 386 (i7 + 1).toNatClampNeg), .int (mx_i h 386 i7.toNatClampNeg), .ref 381]) rfl rfl trivial (fun c17 => ?_) (fun c17 => ?_)
      · skip
        refine wp_steps (i' := 127) (ls' := [some (.ref 381), some (.int i1), w2, some (.int i3), some (.int i4), some (.int i5), some (.int i6), some (.int i7)]) (st' := [.int i4, .int (mx_i h 386 (i7 + 1).toNatClampNeg), .int (mx_i h 386 i7.toNatClampNeg), .ref 381]) (h' := h) (P := True) 1 rfl rfl trivial ?_
        exact J _ (by rw [if_pos c17])
      · skip
        refine wp_steps (i' := 125) (ls' := [some (.ref 381), some (.int i1), w2, some (.int i3), some (.int i4), some (.int i5), some (.int i6), some (.int i7)]) (st' := [.int (-1), .int (mx_i h 386 (i7 + 1).toNatClampNeg), .int (mx_i h 386 i7.toNatClampNeg), .ref 381]) (h' := h) (P := True) 1 rfl rfl trivial ?_
        refine wp_J (j := 127) (st' := [.int (-1), .int (mx_i h 386 (i7 + 1).toNatClampNeg), .int (mx_i h 386 i7.toNatClampNeg), .ref 381]) rfl rfl ?_
        exact J _ (by rw [if_neg c17])
/-! 286: StoneBacksModel.heap()I -/
def H_286_9 (d : Nat) (h : mxH) (i1 : Int32) (i2 : Int32) (i3 : Int32) (Q : mxO → mxH → Prop) : Prop := ∀ (w4 : Option Value), mx_wp d 286 9 [some (.ref 381), some (.int i1), some (.int i2), some (.int i3), w4] [] h Q
set_option maxRecDepth 8000 in
theorem tr_286_0 {d : Nat} {h : mxH} {Q : mxO → mxH → Prop}  (G : mxG h)  (H : (∀ h1, h1 = mx_wi h 381 0 0 → H_286_9 (d + 2) h1 (-1) 0 0 Q)) : mx_wp (d + 2) 286 0 (mx_fr 286 [.ref 381]) [] h Q := by
  show mx_wp (d + 2) 286 0 [some (.ref 381), none, none, none, none] [] h Q
  refine wp_steps (i' := 3) (ls' := [some (.ref 381), none, none, none, none]) (st' := []) (h' := mx_wi h 381 0 0) (P := ((mxT 381).1 = 11 ∧ mxG h) ∧ True) 3 rfl rfl ⟨⟨(congrArg Prod.fst sT_381), G⟩, trivial⟩ ?_
  obtain ⟨h1, e2⟩ : ∃ z9, z9 = mx_wi h 381 0 0 := ⟨_, rfl⟩
  rw [← e2]
  have H := H h1 e2
  have G3 : mxG h1 := e2 ▸ mxG_wi G
  refine wp_steps (i' := 9) (ls' := [some (.ref 381), some (.int (-1)), some (.int 0), some (.int 0), none]) (st' := []) (h' := h1) (P := True) 6 rfl rfl trivial ?_
  exact H _
set_option maxRecDepth 8000 in
theorem tr_286_9 {d : Nat} {h : mxH} {Q : mxO → mxH → Prop}  {i1 : Int32} {i2 : Int32} {i3 : Int32} (G : mxG h)  (H : ((i3 < 12 → (cB (mx_i h 382 4) 10 ∧ (∀ (v3 : Int32), v3 = ((if i2 < (V_204 (mx_i h 382) (V_248 (mx_i h 382) i3)) then i3 else i1) : Int32) → (∀ (v4 : Int32), v4 = ((if i2 < (V_204 (mx_i h 382) (V_248 (mx_i h 382) i3)) then (V_204 (mx_i h 382) (V_248 (mx_i h 382) i3)) else i2) : Int32) → H_286_9 (d + 2) h v3 v4 (i3 + 1) Q)))) ∧ (¬ i3 < 12 → Q (.inl (some (.int i1))) h))) : H_286_9 (d + 2) h i1 i2 i3 Q := by
  intro w4
  show mx_wp (d + 2) 286 9 [some (.ref 381), some (.int i1), some (.int i2), some (.int i3), w4] [] h Q
  refine wp_steps (i' := 11) (ls' := [some (.ref 381), some (.int i1), some (.int i2), some (.int i3), w4]) (st' := [.int 12, .int i3]) (h' := h) (P := True) 2 rfl rfl trivial ?_
  refine wp_br (P := True) (c := 12 ≤ i3) (t := 28) (st' := []) rfl rfl trivial (fun c1 => ?_) (fun c1 => ?_)
  · have c1 := Int32.not_lt.mpr c1
    have H := H.2 c1
    refine wp_steps (i' := 29) (ls' := [some (.ref 381), some (.int i1), some (.int i2), some (.int i3), w4]) (st' := [.int i1]) (h' := h) (P := True) 1 rfl rfl trivial ?_
    exact wp_end (o := .inl (some (.int i1))) (h' := h) (P := True) rfl rfl trivial H
  · have c1 := Int32.not_le.mp c1
    have H := H.1 c1
    refine wp_steps (i' := 15) (ls' := [some (.ref 381), some (.int i1), some (.int i2), some (.int i3), w4]) (st' := [.int i3, .ref 381, .ref 381]) (h' := h) (P := True) 3 rfl rfl trivial ?_
    obtain ⟨o2, H⟩ := H
    refine wp_call (b := false) (y' := 248) (as := [.ref 381, .int i3]) (rest := [.ref 381]) (P := ((mxT 381).1 = mxRc 248 ∧ mxG h)) rfl (by with_unfolding_all rfl) ⟨(congrArg Prod.fst sT_381), G⟩ (Nat.le_of_ble_eq_true rfl) (sp_248 G o2 ?_)
    show mx_wp (d + 2) 286 16 [some (.ref 381), some (.int i1), some (.int i2), some (.int i3), w4] [.int (V_248 (mx_i h 382) i3), .ref 381] h Q
    refine wp_call (b := false) (y' := 204) (as := [.ref 381, .int (V_248 (mx_i h 382) i3)]) (rest := []) (P := ((mxT 381).1 = mxRc 204 ∧ mxG h)) rfl (by with_unfolding_all rfl) ⟨(congrArg Prod.fst sT_381), G⟩ (Nat.le_of_ble_eq_true rfl) (sp_204 G o2 ?_)
    show mx_wp (d + 2) 286 17 [some (.ref 381), some (.int i1), some (.int i2), some (.int i3), w4] [.int (V_204 (mx_i h 382) (V_248 (mx_i h 382) i3))] h Q
    refine wp_steps (i' := 20) (ls' := [some (.ref 381), some (.int i1), some (.int i2), some (.int i3), some (.int (V_204 (mx_i h 382) (V_248 (mx_i h 382) i3)))]) (st' := [.int i2, .int (V_204 (mx_i h 382) (V_248 (mx_i h 382) i3))]) (h' := h) (P := True) 3 rfl rfl trivial ?_
    have J : ∀ (v3 : Int32) (v4 : Int32) (ev3 : v3 = ((if i2 < (V_204 (mx_i h 382) (V_248 (mx_i h 382) i3)) then i3 else i1) : Int32)) (ev4 : v4 = ((if i2 < (V_204 (mx_i h 382) (V_248 (mx_i h 382) i3)) then (V_204 (mx_i h 382) (V_248 (mx_i h 382) i3)) else i2) : Int32)), mx_wp (d + 2) 286 26 [some (.ref 381), some (.int v3), some (.int v4), some (.int i3), some (.int (V_204 (mx_i h 382) (V_248 (mx_i h 382) i3)))] [] h Q := by
      intro v3 v4 ev3 ev4
      have H := H v3 ev3 v4 ev4
      refine wp_steps (i' := 27) (ls' := [some (.ref 381), some (.int v3), some (.int v4), some (.int (i3 + 1)), some (.int (V_204 (mx_i h 382) (V_248 (mx_i h 382) i3)))]) (st' := []) (h' := h) (P := True) 1 rfl rfl trivial ?_
      refine wp_J (j := 9) (st' := []) rfl rfl ?_
      exact H _
    refine wp_br (P := True) (c := i2 < (V_204 (mx_i h 382) (V_248 (mx_i h 382) i3))) (t := 22) (st' := []) rfl rfl trivial (fun c5 => ?_) (fun c5 => ?_)
    · skip
      refine wp_steps (i' := 26) (ls' := [some (.ref 381), some (.int i3), some (.int (V_204 (mx_i h 382) (V_248 (mx_i h 382) i3))), some (.int i3), some (.int (V_204 (mx_i h 382) (V_248 (mx_i h 382) i3)))]) (st' := []) (h' := h) (P := True) 4 rfl rfl trivial ?_
      exact J _ _ (by rw [if_pos c5]) (by rw [if_pos c5])
    · skip
      refine wp_J (j := 26) (st' := []) rfl rfl ?_
      exact J _ _ (by rw [if_neg c5]) (by rw [if_neg c5])
def F_286_9 (r : Nat → Int32) (z : Nat) (s : (Int32 × Int32)) : (Int32 × Int32) := (((if s.2 < (V_204 (r) (V_248 (r) (nI z))) then (nI z) else s.1) : Int32), ((if s.2 < (V_204 (r) (V_248 (r) (nI z))) then (V_204 (r) (V_248 (r) (nI z))) else s.2) : Int32))
theorem lp_286_9 {d : Nat} {h : mxH} {Q : mxO → mxH → Prop} {s0 : (Int32 × Int32)} {n : Nat} (z0 : Nat) (G : mxG h)  (hB : (12 : Int32) = nI n) (hn : n < 2147483648) (hz : z0 ≤ n) (ob : ∀ z, z0 ≤ z → z < n → (cB (mx_i h 382 4) 10 ∧ True)) (k : Q (.inl (some (.int (fz (F_286_9 (mx_i h 382)) z0 n s0).1))) h) : H_286_9 (d + 2) h s0.1 s0.2 (nI z0) Q := by
  have L : ∀ (j z : Nat), z0 ≤ z → z + j = n → H_286_9 (d + 2) h (fz (F_286_9 (mx_i h 382)) z0 z s0).1 (fz (F_286_9 (mx_i h 382)) z0 z s0).2 (nI z) Q := by
    intro j
    induction j with
    | zero =>
      intro z hz0 hzn
      have hzn : z = n := by omega
      subst hzn
      refine tr_286_9 G  ⟨fun c9 => absurd (hB ▸ c9) Int32.lt_irrefl, fun c9 => k⟩
    | succ j ih =>
      intro z hz0 hzn
      have hih := ih (z + 1) (by omega) (by omega)
      rw [nI_succ, fz_s hz0] at hih
      have hob := ob z hz0 (by omega)
      refine tr_286_9 G  ⟨fun c9 => ?_, fun c9 => absurd (hB.symm ▸ nI_lt (by omega) hn) c9⟩
      obtain ⟨q0, hob⟩ := hob
      refine ⟨q0, ?_⟩
      intro v3 ev3
      subst ev3
      intro v4 ev4
      subst ev4
      exact hih
  have L0 := L (n - z0) z0 (Nat.le_refl _) (by omega)
  simp only [fz_0] at L0
  exact L0
/-! 287: StoneBacksModel.pairs()I -/
def H_287_7 (d : Nat) (h : mxH) (i1 : Int32) (i2 : Int32) (Q : mxO → mxH → Prop) : Prop := ∀ (w3 : Option Value), mx_wp d 287 7 [some (.ref 381), some (.int i1), some (.int i2), w3] [] h Q
def H_287_17 (d : Nat) (h : mxH) (i1 : Int32) (i2 : Int32) (i3 : Int32) (Q : mxO → mxH → Prop) : Prop := mx_wp d 287 17 [some (.ref 381), some (.int i1), some (.int i2), some (.int i3)] [] h Q
set_option maxRecDepth 8000 in
theorem tr_287_0 {d : Nat} {h : mxH} {Q : mxO → mxH → Prop}  (G : mxG h)  (H : (∀ h1, h1 = mx_wi h 381 0 0 → H_287_7 (d + 3) h1 0 0 Q)) : mx_wp (d + 3) 287 0 (mx_fr 287 [.ref 381]) [] h Q := by
  show mx_wp (d + 3) 287 0 [some (.ref 381), none, none, none] [] h Q
  refine wp_steps (i' := 3) (ls' := [some (.ref 381), none, none, none]) (st' := []) (h' := mx_wi h 381 0 0) (P := ((mxT 381).1 = 11 ∧ mxG h) ∧ True) 3 rfl rfl ⟨⟨(congrArg Prod.fst sT_381), G⟩, trivial⟩ ?_
  obtain ⟨h1, e2⟩ : ∃ z9, z9 = mx_wi h 381 0 0 := ⟨_, rfl⟩
  rw [← e2]
  have H := H h1 e2
  have G3 : mxG h1 := e2 ▸ mxG_wi G
  refine wp_steps (i' := 7) (ls' := [some (.ref 381), some (.int 0), some (.int 0), none]) (st' := []) (h' := h1) (P := True) 4 rfl rfl trivial ?_
  exact H _
set_option maxRecDepth 8000 in
theorem tr_287_7 {d : Nat} {h : mxH} {Q : mxO → mxH → Prop}  {i1 : Int32} {i2 : Int32} (G : mxG h)  (H : ((i2 < (mx_i h 382 3) → H_287_17 (d + 3) h i1 i2 (i2 + 1) Q) ∧ (¬ i2 < (mx_i h 382 3) → Q (.inl (some (.int i1))) h))) : H_287_7 (d + 3) h i1 i2 Q := by
  intro w3
  show mx_wp (d + 3) 287 7 [some (.ref 381), some (.int i1), some (.int i2), w3] [] h Q
  refine wp_steps (i' := 12) (ls' := [some (.ref 381), some (.int i1), some (.int i2), w3]) (st' := [.int (mx_i h 382 3), .int i2]) (h' := h) (P := ((mxT 381).1 = 11 ∧ mxG h) ∧ (((mxT 382).1 = 50 ∧ mxG h) ∧ vp_in 3 (mxT 382).2) ∧ True) 5 rfl rfl ⟨⟨(congrArg Prod.fst sT_381), G⟩, (cA sT_382 G (vpl rfl)), trivial⟩ ?_
  refine wp_br (P := True) (c := (mx_i h 382 3) ≤ i2) (t := 40) (st' := []) rfl rfl trivial (fun c1 => ?_) (fun c1 => ?_)
  · have c1 := Int32.not_lt.mpr c1
    have H := H.2 c1
    refine wp_steps (i' := 41) (ls' := [some (.ref 381), some (.int i1), some (.int i2), w3]) (st' := [.int i1]) (h' := h) (P := True) 1 rfl rfl trivial ?_
    exact wp_end (o := .inl (some (.int i1))) (h' := h) (P := True) rfl rfl trivial H
  · have c1 := Int32.not_le.mp c1
    have H := H.1 c1
    refine wp_steps (i' := 17) (ls' := [some (.ref 381), some (.int i1), some (.int i2), some (.int (i2 + 1))]) (st' := []) (h' := h) (P := True) 4 rfl rfl trivial ?_
    exact H 
set_option maxRecDepth 8000 in
theorem tr_287_17 {d : Nat} {h : mxH} {Q : mxO → mxH → Prop}  {i1 : Int32} {i2 : Int32} {i3 : Int32} (G : mxG h)  (H : ((i3 < (mx_i h 382 3) → (cB (mx_i h 382 4) 10 ∧ (∀ (v3 : Int32), v3 = ((if (V_205 (mx_i h 382) i2) = (V_205 (mx_i h 382) i3) then 1 else 0) : Int32) → H_287_17 (d + 3) h (i1 + v3) i2 (i3 + 1) Q))) ∧ (¬ i3 < (mx_i h 382 3) → H_287_7 (d + 3) h i1 (i2 + 1) Q))) : H_287_17 (d + 3) h i1 i2 i3 Q := by
  show mx_wp (d + 3) 287 17 [some (.ref 381), some (.int i1), some (.int i2), some (.int i3)] [] h Q
  refine wp_steps (i' := 22) (ls' := [some (.ref 381), some (.int i1), some (.int i2), some (.int i3)]) (st' := [.int (mx_i h 382 3), .int i3]) (h' := h) (P := ((mxT 381).1 = 11 ∧ mxG h) ∧ (((mxT 382).1 = 50 ∧ mxG h) ∧ vp_in 3 (mxT 382).2) ∧ True) 5 rfl rfl ⟨⟨(congrArg Prod.fst sT_381), G⟩, (cA sT_382 G (vpl rfl)), trivial⟩ ?_
  refine wp_br (P := True) (c := (mx_i h 382 3) ≤ i3) (t := 38) (st' := []) rfl rfl trivial (fun c1 => ?_) (fun c1 => ?_)
  · have c1 := Int32.not_lt.mpr c1
    have H := H.2 c1
    refine wp_steps (i' := 39) (ls' := [some (.ref 381), some (.int i1), some (.int (i2 + 1)), some (.int i3)]) (st' := []) (h' := h) (P := True) 1 rfl rfl trivial ?_
    refine wp_J (j := 7) (st' := []) rfl rfl ?_
    exact H _
  · have c1 := Int32.not_le.mp c1
    have H := H.1 c1
    refine wp_steps (i' := 26) (ls' := [some (.ref 381), some (.int i1), some (.int i2), some (.int i3)]) (st' := [.int i2, .ref 381, .int i1]) (h' := h) (P := True) 3 rfl rfl trivial ?_
    obtain ⟨o2, H⟩ := H
    refine wp_call (b := false) (y' := 205) (as := [.ref 381, .int i2]) (rest := [.int i1]) (P := ((mxT 381).1 = mxRc 205 ∧ mxG h)) rfl (by with_unfolding_all rfl) ⟨(congrArg Prod.fst sT_381), G⟩ (Nat.le_of_ble_eq_true rfl) (sp_205 G o2 ?_)
    show mx_wp (d + 3) 287 27 [some (.ref 381), some (.int i1), some (.int i2), some (.int i3)] [.int (V_205 (mx_i h 382) i2), .int i1] h Q
    refine wp_steps (i' := 29) (ls' := [some (.ref 381), some (.int i1), some (.int i2), some (.int i3)]) (st' := [.int i3, .ref 381, .int (V_205 (mx_i h 382) i2), .int i1]) (h' := h) (P := True) 2 rfl rfl trivial ?_
    refine wp_call (b := false) (y' := 205) (as := [.ref 381, .int i3]) (rest := [.int (V_205 (mx_i h 382) i2), .int i1]) (P := ((mxT 381).1 = mxRc 205 ∧ mxG h)) rfl (by with_unfolding_all rfl) ⟨(congrArg Prod.fst sT_381), G⟩ (Nat.le_of_ble_eq_true rfl) (sp_205 G o2 ?_)
    show mx_wp (d + 3) 287 30 [some (.ref 381), some (.int i1), some (.int i2), some (.int i3)] [.int (V_205 (mx_i h 382) i3), .int (V_205 (mx_i h 382) i2), .int i1] h Q
    have J : ∀ (v3 : Int32) (ev3 : v3 = ((if (V_205 (mx_i h 382) i2) = (V_205 (mx_i h 382) i3) then 1 else 0) : Int32)), mx_wp (d + 3) 287 34 [some (.ref 381), some (.int i1), some (.int i2), some (.int i3)] [.int v3, .int i1] h Q := by
      intro v3 ev3
      have H := H v3 ev3
      refine wp_steps (i' := 37) (ls' := [some (.ref 381), some (.int (i1 + v3)), some (.int i2), some (.int (i3 + 1))]) (st' := []) (h' := h) (P := True) 3 rfl rfl trivial ?_
      refine wp_J (j := 17) (st' := []) rfl rfl ?_
      exact H 
    refine wp_br (P := True) (c := ¬ (V_205 (mx_i h 382) i2) = (V_205 (mx_i h 382) i3)) (t := 33) (st' := [.int i1]) rfl rfl trivial (fun c4 => ?_) (fun c4 => ?_)
    · skip
      refine wp_steps (i' := 34) (ls' := [some (.ref 381), some (.int i1), some (.int i2), some (.int i3)]) (st' := [.int 0, .int i1]) (h' := h) (P := True) 1 rfl rfl trivial ?_
      exact J _ (by rw [if_neg c4])
    · have c4 := Decidable.of_not_not c4
      refine wp_steps (i' := 32) (ls' := [some (.ref 381), some (.int i1), some (.int i2), some (.int i3)]) (st' := [.int 1, .int i1]) (h' := h) (P := True) 1 rfl rfl trivial ?_
      refine wp_J (j := 34) (st' := [.int 1, .int i1]) rfl rfl ?_
      exact J _ (by rw [if_pos c4])
def F_287_17 (r : Nat → Int32) (i2 : Int32) (z : Nat) (s : Int32) : Int32 := (s + ((if (V_205 (r) i2) = (V_205 (r) (nI z)) then 1 else 0) : Int32))
theorem lp_287_17 {d : Nat} {h : mxH} {Q : mxO → mxH → Prop} {i2 : Int32} {s0 : Int32} {n : Nat} (z0 : Nat) (G : mxG h)  (hB : (mx_i h 382 3) = nI n) (hn : n < 2147483648) (hz : z0 ≤ n) (ob : ∀ z, z0 ≤ z → z < n → (cB (mx_i h 382 4) 10 ∧ True)) (k : H_287_7 (d + 3) h (fz (F_287_17 (mx_i h 382) i2) z0 n s0) (i2 + 1) Q) : H_287_17 (d + 3) h s0 i2 (nI z0) Q := by
  have L : ∀ (j z : Nat), z0 ≤ z → z + j = n → H_287_17 (d + 3) h (fz (F_287_17 (mx_i h 382) i2) z0 z s0) i2 (nI z) Q := by
    intro j
    induction j with
    | zero =>
      intro z hz0 hzn
      have hzn : z = n := by omega
      subst hzn
      refine tr_287_17 G  ⟨fun c9 => absurd (hB ▸ c9) Int32.lt_irrefl, fun c9 => k⟩
    | succ j ih =>
      intro z hz0 hzn
      have hih := ih (z + 1) (by omega) (by omega)
      rw [nI_succ, fz_s hz0] at hih
      have hob := ob z hz0 (by omega)
      refine tr_287_17 G  ⟨fun c9 => ?_, fun c9 => absurd (hB.symm ▸ nI_lt (by omega) hn) c9⟩
      obtain ⟨q0, hob⟩ := hob
      refine ⟨q0, ?_⟩
      intro v3 ev3
      subst ev3
      exact hih
  have L0 := L (n - z0) z0 (Nat.le_refl _) (by omega)
  simp only [fz_0] at L0
  exact L0
/-! 288: StoneBacksModel.heaviest()I -/
def H_288_7 (d : Nat) (h : mxH) (i1 : Int32) (i2 : Int32) (Q : mxO → mxH → Prop) : Prop := mx_wp d 288 7 [some (.ref 381), some (.int i1), some (.int i2)] [] h Q
set_option maxRecDepth 8000 in
theorem tr_288_0 {d : Nat} {h : mxH} {Q : mxO → mxH → Prop}  (G : mxG h)  (H : (∀ h1, h1 = mx_wi h 381 0 0 → H_288_7 (d + 3) h1 (-1) 0 Q)) : mx_wp (d + 3) 288 0 (mx_fr 288 [.ref 381]) [] h Q := by
  show mx_wp (d + 3) 288 0 [some (.ref 381), none, none] [] h Q
  refine wp_steps (i' := 3) (ls' := [some (.ref 381), none, none]) (st' := []) (h' := mx_wi h 381 0 0) (P := ((mxT 381).1 = 11 ∧ mxG h) ∧ True) 3 rfl rfl ⟨⟨(congrArg Prod.fst sT_381), G⟩, trivial⟩ ?_
  obtain ⟨h1, e2⟩ : ∃ z9, z9 = mx_wi h 381 0 0 := ⟨_, rfl⟩
  rw [← e2]
  have H := H h1 e2
  have G3 : mxG h1 := e2 ▸ mxG_wi G
  refine wp_steps (i' := 7) (ls' := [some (.ref 381), some (.int (-1)), some (.int 0)]) (st' := []) (h' := h1) (P := True) 4 rfl rfl trivial ?_
  exact H 
set_option maxRecDepth 8000 in
theorem tr_288_7 {d : Nat} {h : mxH} {Q : mxO → mxH → Prop}  {i1 : Int32} {i2 : Int32} (G : mxG h)  (H : ((i2 < (mx_i h 382 3) → (((i1 = (-1) → True) ∧ (¬ i1 = (-1) → (cB (mx_i h 382 4) 10 ∧ True))) ∧ (∀ (v2 : Int32), v2 = ((if i1 = (-1) then i2 else (if (V_205 (mx_i h 382) i1) < (V_205 (mx_i h 382) i2) then i2 else i1)) : Int32) → H_288_7 (d + 3) h v2 (i2 + 1) Q))) ∧ (¬ i2 < (mx_i h 382 3) → Q (.inl (some (.int i1))) h))) : H_288_7 (d + 3) h i1 i2 Q := by
  show mx_wp (d + 3) 288 7 [some (.ref 381), some (.int i1), some (.int i2)] [] h Q
  refine wp_steps (i' := 12) (ls' := [some (.ref 381), some (.int i1), some (.int i2)]) (st' := [.int (mx_i h 382 3), .int i2]) (h' := h) (P := ((mxT 381).1 = 11 ∧ mxG h) ∧ (((mxT 382).1 = 50 ∧ mxG h) ∧ vp_in 3 (mxT 382).2) ∧ True) 5 rfl rfl ⟨⟨(congrArg Prod.fst sT_381), G⟩, (cA sT_382 G (vpl rfl)), trivial⟩ ?_
  refine wp_br (P := True) (c := (mx_i h 382 3) ≤ i2) (t := 27) (st' := []) rfl rfl trivial (fun c1 => ?_) (fun c1 => ?_)
  · have c1 := Int32.not_lt.mpr c1
    have H := H.2 c1
    refine wp_steps (i' := 28) (ls' := [some (.ref 381), some (.int i1), some (.int i2)]) (st' := [.int i1]) (h' := h) (P := True) 1 rfl rfl trivial ?_
    exact wp_end (o := .inl (some (.int i1))) (h' := h) (P := True) rfl rfl trivial H
  · have c1 := Int32.not_le.mp c1
    have H := H.1 c1
    refine wp_steps (i' := 15) (ls' := [some (.ref 381), some (.int i1), some (.int i2)]) (st' := [.int (-1), .int i1]) (h' := h) (P := True) 2 rfl rfl trivial ?_
    have J : ∀ (v2 : Int32) (ev2 : v2 = ((if i1 = (-1) then i2 else (if (V_205 (mx_i h 382) i1) < (V_205 (mx_i h 382) i2) then i2 else i1)) : Int32)), mx_wp (d + 3) 288 25 [some (.ref 381), some (.int v2), some (.int i2)] [] h Q := by
      intro v2 ev2
      have H := H.2 v2 ev2
      refine wp_steps (i' := 26) (ls' := [some (.ref 381), some (.int v2), some (.int (i2 + 1))]) (st' := []) (h' := h) (P := True) 1 rfl rfl trivial ?_
      refine wp_J (j := 7) (st' := []) rfl rfl ?_
      exact H 
    have H := H.1
    refine wp_br (P := True) (c := i1 = (-1)) (t := 23) (st' := []) rfl rfl trivial (fun c3 => ?_) (fun c3 => ?_)
    · skip
      refine wp_steps (i' := 25) (ls' := [some (.ref 381), some (.int i2), some (.int i2)]) (st' := []) (h' := h) (P := True) 2 rfl rfl trivial ?_
      exact J _ (by rw [if_pos c3])
    · skip
      have H := H.2 c3
      refine wp_steps (i' := 18) (ls' := [some (.ref 381), some (.int i1), some (.int i2)]) (st' := [.int i2, .ref 381]) (h' := h) (P := True) 2 rfl rfl trivial ?_
      obtain ⟨o4, H⟩ := H
      refine wp_call (b := false) (y' := 205) (as := [.ref 381, .int i2]) (rest := []) (P := ((mxT 381).1 = mxRc 205 ∧ mxG h)) rfl (by with_unfolding_all rfl) ⟨(congrArg Prod.fst sT_381), G⟩ (Nat.le_of_ble_eq_true rfl) (sp_205 G o4 ?_)
      show mx_wp (d + 3) 288 19 [some (.ref 381), some (.int i1), some (.int i2)] [.int (V_205 (mx_i h 382) i2)] h Q
      refine wp_steps (i' := 21) (ls' := [some (.ref 381), some (.int i1), some (.int i2)]) (st' := [.int i1, .ref 381, .int (V_205 (mx_i h 382) i2)]) (h' := h) (P := True) 2 rfl rfl trivial ?_
      refine wp_call (b := false) (y' := 205) (as := [.ref 381, .int i1]) (rest := [.int (V_205 (mx_i h 382) i2)]) (P := ((mxT 381).1 = mxRc 205 ∧ mxG h)) rfl (by with_unfolding_all rfl) ⟨(congrArg Prod.fst sT_381), G⟩ (Nat.le_of_ble_eq_true rfl) (sp_205 G o4 ?_)
      show mx_wp (d + 3) 288 22 [some (.ref 381), some (.int i1), some (.int i2)] [.int (V_205 (mx_i h 382) i1), .int (V_205 (mx_i h 382) i2)] h Q
      refine wp_br (P := True) (c := (V_205 (mx_i h 382) i2) ≤ (V_205 (mx_i h 382) i1)) (t := 25) (st' := []) rfl rfl trivial (fun c5 => ?_) (fun c5 => ?_)
      · have c5 := Int32.not_lt.mpr c5
        exact J _ (by rw [if_neg c3, if_neg c5])
      · have c5 := Int32.not_le.mp c5
        refine wp_steps (i' := 25) (ls' := [some (.ref 381), some (.int i2), some (.int i2)]) (st' := []) (h' := h) (P := True) 2 rfl rfl trivial ?_
        exact J _ (by rw [if_neg c3, if_pos c5])
def F_288_7 (r : Nat → Int32) (z : Nat) (s : Int32) : Int32 := ((if s = (-1) then (nI z) else (if (V_205 (r) s) < (V_205 (r) (nI z)) then (nI z) else s)) : Int32)
theorem lp_288_7 {d : Nat} {h : mxH} {Q : mxO → mxH → Prop} {s0 : Int32} {n : Nat} (z0 : Nat) (G : mxG h)  (hB : (mx_i h 382 3) = nI n) (hn : n < 2147483648) (hz : z0 ≤ n) (ob : ∀ z, z0 ≤ z → z < n → ((((fz (F_288_7 (mx_i h 382)) z0 z s0) = (-1) → True) ∧ (¬ (fz (F_288_7 (mx_i h 382)) z0 z s0) = (-1) → (cB (mx_i h 382 4) 10 ∧ True))) ∧ True)) (k : Q (.inl (some (.int (fz (F_288_7 (mx_i h 382)) z0 n s0)))) h) : H_288_7 (d + 3) h s0 (nI z0) Q := by
  have L : ∀ (j z : Nat), z0 ≤ z → z + j = n → H_288_7 (d + 3) h (fz (F_288_7 (mx_i h 382)) z0 z s0) (nI z) Q := by
    intro j
    induction j with
    | zero =>
      intro z hz0 hzn
      have hzn : z = n := by omega
      subst hzn
      refine tr_288_7 G  ⟨fun c9 => absurd (hB ▸ c9) Int32.lt_irrefl, fun c9 => k⟩
    | succ j ih =>
      intro z hz0 hzn
      have hih := ih (z + 1) (by omega) (by omega)
      rw [nI_succ, fz_s hz0] at hih
      have hob := ob z hz0 (by omega)
      refine tr_288_7 G  ⟨fun c9 => ?_, fun c9 => absurd (hB.symm ▸ nI_lt (by omega) hn) c9⟩
      obtain ⟨q0, hob⟩ := hob
      refine ⟨q0, ?_⟩
      intro v2 ev2
      subst ev2
      exact hih
  have L0 := L (n - z0) z0 (Nat.le_refl _) (by omega)
  simp only [fz_0] at L0
  exact L0
/-! 289: StoneBacksModel.unpaid()I -/
def H_289_4 (d : Nat) (h : mxH) (i1 : Int32) (i2 : Int32) (Q : mxO → mxH → Prop) : Prop := mx_wp d 289 4 [some (.ref 381), some (.int i1), some (.int i2)] [] h Q
set_option maxRecDepth 8000 in
theorem tr_289_0 {d : Nat} {h : mxH} {Q : mxO → mxH → Prop}  (G : mxG h)  (H : H_289_4 (d + 1) h 0 0 Q) : mx_wp (d + 1) 289 0 (mx_fr 289 [.ref 381]) [] h Q := by
  show mx_wp (d + 1) 289 0 [some (.ref 381), none, none] [] h Q
  refine wp_steps (i' := 4) (ls' := [some (.ref 381), some (.int 0), some (.int 0)]) (st' := []) (h' := h) (P := True) 4 rfl rfl trivial ?_
  exact H 
set_option maxRecDepth 8000 in
theorem tr_289_4 {d : Nat} {h : mxH} {Q : mxO → mxH → Prop}  {i1 : Int32} {i2 : Int32} (G : mxG h)  (H : ((i2 < (mx_i h 382 4) → (vp_in ((69 + (6 * i2)) + (3 : Int32)) 769 ∧ ((((V_198 (mx_i h 382) i2 (3 : Int32)) < 2 → (vp_in ((69 + (6 * i2)) + (2 : Int32)) 769 ∧ True)) ∧ (¬ (V_198 (mx_i h 382) i2 (3 : Int32)) < 2 → True)) ∧ (∀ (v3 : Int32), v3 = ((if (V_198 (mx_i h 382) i2 (3 : Int32)) < 2 then (V_198 (mx_i h 382) i2 (2 : Int32)) else 0) : Int32) → H_289_4 (d + 1) h (i1 + v3) (i2 + 1) Q)))) ∧ (¬ i2 < (mx_i h 382 4) → Q (.inl (some (.int i1))) h))) : H_289_4 (d + 1) h i1 i2 Q := by
  show mx_wp (d + 1) 289 4 [some (.ref 381), some (.int i1), some (.int i2)] [] h Q
  refine wp_steps (i' := 9) (ls' := [some (.ref 381), some (.int i1), some (.int i2)]) (st' := [.int (mx_i h 382 4), .int i2]) (h' := h) (P := ((mxT 381).1 = 11 ∧ mxG h) ∧ (((mxT 382).1 = 50 ∧ mxG h) ∧ vp_in 4 (mxT 382).2) ∧ True) 5 rfl rfl ⟨⟨(congrArg Prod.fst sT_381), G⟩, (cA sT_382 G (vpl rfl)), trivial⟩ ?_
  refine wp_br (P := True) (c := (mx_i h 382 4) ≤ i2) (t := 27) (st' := []) rfl rfl trivial (fun c1 => ?_) (fun c1 => ?_)
  · have c1 := Int32.not_lt.mpr c1
    have H := H.2 c1
    refine wp_steps (i' := 28) (ls' := [some (.ref 381), some (.int i1), some (.int i2)]) (st' := [.int i1]) (h' := h) (P := True) 1 rfl rfl trivial ?_
    exact wp_end (o := .inl (some (.int i1))) (h' := h) (P := True) rfl rfl trivial H
  · have c1 := Int32.not_le.mp c1
    have H := H.1 c1
    refine wp_steps (i' := 14) (ls' := [some (.ref 381), some (.int i1), some (.int i2)]) (st' := [.int 3, .int i2, .ref 381, .int i1]) (h' := h) (P := True) 4 rfl rfl trivial ?_
    obtain ⟨o2, H⟩ := H
    refine wp_call (b := false) (y' := 198) (as := [.ref 381, .int i2, .int 3]) (rest := [.int i1]) (P := ((mxT 381).1 = mxRc 198 ∧ mxG h)) rfl (by with_unfolding_all rfl) ⟨(congrArg Prod.fst sT_381), G⟩ (Nat.le_of_ble_eq_true rfl) (sp_198 G o2 ?_)
    show mx_wp (d + 1) 289 15 [some (.ref 381), some (.int i1), some (.int i2)] [.int (V_198 (mx_i h 382) i2 (3 : Int32)), .int i1] h Q
    refine wp_steps (i' := 16) (ls' := [some (.ref 381), some (.int i1), some (.int i2)]) (st' := [.int 2, .int (V_198 (mx_i h 382) i2 (3 : Int32)), .int i1]) (h' := h) (P := True) 1 rfl rfl trivial ?_
    have J : ∀ (v3 : Int32) (ev3 : v3 = ((if (V_198 (mx_i h 382) i2 (3 : Int32)) < 2 then (V_198 (mx_i h 382) i2 (2 : Int32)) else 0) : Int32)), mx_wp (d + 1) 289 23 [some (.ref 381), some (.int i1), some (.int i2)] [.int v3, .int i1] h Q := by
      intro v3 ev3
      have H := H.2 v3 ev3
      refine wp_steps (i' := 26) (ls' := [some (.ref 381), some (.int (i1 + v3)), some (.int (i2 + 1))]) (st' := []) (h' := h) (P := True) 3 rfl rfl trivial ?_
      refine wp_J (j := 4) (st' := []) rfl rfl ?_
      exact H 
    have H := H.1
    refine wp_br (P := True) (c := 2 ≤ (V_198 (mx_i h 382) i2 (3 : Int32))) (t := 22) (st' := [.int i1]) rfl rfl trivial (fun c4 => ?_) (fun c4 => ?_)
    · have c4 := Int32.not_lt.mpr c4
      refine wp_steps (i' := 23) (ls' := [some (.ref 381), some (.int i1), some (.int i2)]) (st' := [.int 0, .int i1]) (h' := h) (P := True) 1 rfl rfl trivial ?_
      exact J _ (by rw [if_neg c4])
    · have c4 := Int32.not_le.mp c4
      have H := H.1 c4
      refine wp_steps (i' := 20) (ls' := [some (.ref 381), some (.int i1), some (.int i2)]) (st' := [.int 2, .int i2, .ref 381, .int i1]) (h' := h) (P := True) 3 rfl rfl trivial ?_
      obtain ⟨o5, H⟩ := H
      refine wp_call (b := false) (y' := 198) (as := [.ref 381, .int i2, .int 2]) (rest := [.int i1]) (P := ((mxT 381).1 = mxRc 198 ∧ mxG h)) rfl (by with_unfolding_all rfl) ⟨(congrArg Prod.fst sT_381), G⟩ (Nat.le_of_ble_eq_true rfl) (sp_198 G o5 ?_)
      show mx_wp (d + 1) 289 21 [some (.ref 381), some (.int i1), some (.int i2)] [.int (V_198 (mx_i h 382) i2 (2 : Int32)), .int i1] h Q
      refine wp_J (j := 23) (st' := [.int (V_198 (mx_i h 382) i2 (2 : Int32)), .int i1]) rfl rfl ?_
      exact J _ (by rw [if_pos c4])
def F_289_4 (r : Nat → Int32) (z : Nat) (s : Int32) : Int32 := (s + ((if (V_198 (r) (nI z) (3 : Int32)) < 2 then (V_198 (r) (nI z) (2 : Int32)) else 0) : Int32))
theorem lp_289_4 {d : Nat} {h : mxH} {Q : mxO → mxH → Prop} {s0 : Int32} {n : Nat} (z0 : Nat) (G : mxG h)  (hB : (mx_i h 382 4) = nI n) (hn : n < 2147483648) (hz : z0 ≤ n) (ob : ∀ z, z0 ≤ z → z < n → (vp_in ((69 + (6 * (nI z))) + (3 : Int32)) 769 ∧ ((((V_198 (mx_i h 382) (nI z) (3 : Int32)) < 2 → (vp_in ((69 + (6 * (nI z))) + (2 : Int32)) 769 ∧ True)) ∧ (¬ (V_198 (mx_i h 382) (nI z) (3 : Int32)) < 2 → True)) ∧ True))) (k : Q (.inl (some (.int (fz (F_289_4 (mx_i h 382)) z0 n s0)))) h) : H_289_4 (d + 1) h s0 (nI z0) Q := by
  have L : ∀ (j z : Nat), z0 ≤ z → z + j = n → H_289_4 (d + 1) h (fz (F_289_4 (mx_i h 382)) z0 z s0) (nI z) Q := by
    intro j
    induction j with
    | zero =>
      intro z hz0 hzn
      have hzn : z = n := by omega
      subst hzn
      refine tr_289_4 G  ⟨fun c9 => absurd (hB ▸ c9) Int32.lt_irrefl, fun c9 => k⟩
    | succ j ih =>
      intro z hz0 hzn
      have hih := ih (z + 1) (by omega) (by omega)
      rw [nI_succ, fz_s hz0] at hih
      have hob := ob z hz0 (by omega)
      refine tr_289_4 G  ⟨fun c9 => ?_, fun c9 => absurd (hB.symm ▸ nI_lt (by omega) hn) c9⟩
      obtain ⟨q0, hob⟩ := hob
      refine ⟨q0, ?_⟩
      obtain ⟨q0, hob⟩ := hob
      refine ⟨q0, ?_⟩
      intro v3 ev3
      subst ev3
      exact hih
  have L0 := L (n - z0) z0 (Nat.le_refl _) (by omega)
  simp only [fz_0] at L0
  exact L0
def V_289 (r : Nat → Int32) : Int32 := (fo (F_289_4 (r)) ((r 4)).toNatClampNeg 0)
theorem sp_289 {d : Nat} {h : mxH} {Q : mxO → mxH → Prop}  (G : mxG h)  (hcb : cB (mx_i h 382 4) 10) (k : Q (.inl (some (.int (V_289 (mx_i h 382))))) h) : mx_wp (d + 1) 289 0 (mx_fr 289 [.ref 381]) [] h Q := by
  unfold V_289 at k
  obtain ⟨n, hn, hB⟩ := hcb
  rw [hB, nI_clamp (by omega)] at k
  refine tr_289_0 G  ?_
  refine lp_289_4 (s0 := 0) 0 G  hB (by omega) (Nat.zero_le _) (fun z _ hz => ⟨vpS (by omega), ⟨⟨fun _ => ⟨vpS (by omega), trivial⟩, fun _ => trivial⟩, trivial⟩⟩) ?_
  simp only [fz_fo]
  exact k
/-! 292: StoneBacksModel.hurtOnes()I -/
def H_292_4 (d : Nat) (h : mxH) (i1 : Int32) (i2 : Int32) (Q : mxO → mxH → Prop) : Prop := mx_wp d 292 4 [some (.ref 381), some (.int i1), some (.int i2)] [] h Q
set_option maxRecDepth 8000 in
theorem tr_292_0 {d : Nat} {h : mxH} {Q : mxO → mxH → Prop}  (G : mxG h)  (H : H_292_4 (d + 1) h 0 0 Q) : mx_wp (d + 1) 292 0 (mx_fr 292 [.ref 381]) [] h Q := by
  show mx_wp (d + 1) 292 0 [some (.ref 381), none, none] [] h Q
  refine wp_steps (i' := 4) (ls' := [some (.ref 381), some (.int 0), some (.int 0)]) (st' := []) (h' := h) (P := True) 4 rfl rfl trivial ?_
  exact H 
set_option maxRecDepth 8000 in
theorem tr_292_4 {d : Nat} {h : mxH} {Q : mxO → mxH → Prop}  {i1 : Int32} {i2 : Int32} (G : mxG h)  (H : ((i2 < (mx_i h 382 3) → (vp_in ((33 + (6 * i2)) + (5 : Int32)) 769 ∧ (∀ (v3 : Int32), v3 = ((if (V_196 (mx_i h 382) i2 (5 : Int32)) = 1 then ((1 : Int32) <<< (i2 &&& 31)) else 0) : Int32) → H_292_4 (d + 1) h (i1 ||| v3) (i2 + 1) Q))) ∧ (¬ i2 < (mx_i h 382 3) → Q (.inl (some (.int i1))) h))) : H_292_4 (d + 1) h i1 i2 Q := by
  show mx_wp (d + 1) 292 4 [some (.ref 381), some (.int i1), some (.int i2)] [] h Q
  refine wp_steps (i' := 9) (ls' := [some (.ref 381), some (.int i1), some (.int i2)]) (st' := [.int (mx_i h 382 3), .int i2]) (h' := h) (P := ((mxT 381).1 = 11 ∧ mxG h) ∧ (((mxT 382).1 = 50 ∧ mxG h) ∧ vp_in 3 (mxT 382).2) ∧ True) 5 rfl rfl ⟨⟨(congrArg Prod.fst sT_381), G⟩, (cA sT_382 G (vpl rfl)), trivial⟩ ?_
  refine wp_br (P := True) (c := (mx_i h 382 3) ≤ i2) (t := 26) (st' := []) rfl rfl trivial (fun c1 => ?_) (fun c1 => ?_)
  · have c1 := Int32.not_lt.mpr c1
    have H := H.2 c1
    refine wp_steps (i' := 27) (ls' := [some (.ref 381), some (.int i1), some (.int i2)]) (st' := [.int i1]) (h' := h) (P := True) 1 rfl rfl trivial ?_
    exact wp_end (o := .inl (some (.int i1))) (h' := h) (P := True) rfl rfl trivial H
  · have c1 := Int32.not_le.mp c1
    have H := H.1 c1
    refine wp_steps (i' := 14) (ls' := [some (.ref 381), some (.int i1), some (.int i2)]) (st' := [.int 5, .int i2, .ref 381, .int i1]) (h' := h) (P := True) 4 rfl rfl trivial ?_
    obtain ⟨o2, H⟩ := H
    refine wp_call (b := false) (y' := 196) (as := [.ref 381, .int i2, .int 5]) (rest := [.int i1]) (P := ((mxT 381).1 = mxRc 196 ∧ mxG h)) rfl (by with_unfolding_all rfl) ⟨(congrArg Prod.fst sT_381), G⟩ (Nat.le_of_ble_eq_true rfl) (sp_196 G o2 ?_)
    show mx_wp (d + 1) 292 15 [some (.ref 381), some (.int i1), some (.int i2)] [.int (V_196 (mx_i h 382) i2 (5 : Int32)), .int i1] h Q
    refine wp_steps (i' := 16) (ls' := [some (.ref 381), some (.int i1), some (.int i2)]) (st' := [.int 1, .int (V_196 (mx_i h 382) i2 (5 : Int32)), .int i1]) (h' := h) (P := True) 1 rfl rfl trivial ?_
    have J : ∀ (v3 : Int32) (ev3 : v3 = ((if (V_196 (mx_i h 382) i2 (5 : Int32)) = 1 then ((1 : Int32) <<< (i2 &&& 31)) else 0) : Int32)), mx_wp (d + 1) 292 22 [some (.ref 381), some (.int i1), some (.int i2)] [.int v3, .int i1] h Q := by
      intro v3 ev3
      have H := H v3 ev3
      refine wp_steps (i' := 25) (ls' := [some (.ref 381), some (.int (i1 ||| v3)), some (.int (i2 + 1))]) (st' := []) (h' := h) (P := True) 3 rfl rfl trivial ?_
      refine wp_J (j := 4) (st' := []) rfl rfl ?_
      exact H 
    refine wp_br (P := True) (c := ¬ (V_196 (mx_i h 382) i2 (5 : Int32)) = 1) (t := 21) (st' := [.int i1]) rfl rfl trivial (fun c4 => ?_) (fun c4 => ?_)
    · skip
      refine wp_steps (i' := 22) (ls' := [some (.ref 381), some (.int i1), some (.int i2)]) (st' := [.int 0, .int i1]) (h' := h) (P := True) 1 rfl rfl trivial ?_
      exact J _ (by rw [if_neg c4])
    · have c4 := Decidable.of_not_not c4
      refine wp_steps (i' := 20) (ls' := [some (.ref 381), some (.int i1), some (.int i2)]) (st' := [.int ((1 : Int32) <<< (i2 &&& 31)), .int i1]) (h' := h) (P := True) 3 rfl rfl trivial ?_
      refine wp_J (j := 22) (st' := [.int ((1 : Int32) <<< (i2 &&& 31)), .int i1]) rfl rfl ?_
      exact J _ (by rw [if_pos c4])
def F_292_4 (r : Nat → Int32) (z : Nat) (s : Int32) : Int32 := (s ||| ((if (V_196 (r) (nI z) (5 : Int32)) = 1 then ((1 : Int32) <<< ((nI z) &&& 31)) else 0) : Int32))
theorem lp_292_4 {d : Nat} {h : mxH} {Q : mxO → mxH → Prop} {s0 : Int32} {n : Nat} (z0 : Nat) (G : mxG h)  (hB : (mx_i h 382 3) = nI n) (hn : n < 2147483648) (hz : z0 ≤ n) (ob : ∀ z, z0 ≤ z → z < n → (vp_in ((33 + (6 * (nI z))) + (5 : Int32)) 769 ∧ True)) (k : Q (.inl (some (.int (fz (F_292_4 (mx_i h 382)) z0 n s0)))) h) : H_292_4 (d + 1) h s0 (nI z0) Q := by
  have L : ∀ (j z : Nat), z0 ≤ z → z + j = n → H_292_4 (d + 1) h (fz (F_292_4 (mx_i h 382)) z0 z s0) (nI z) Q := by
    intro j
    induction j with
    | zero =>
      intro z hz0 hzn
      have hzn : z = n := by omega
      subst hzn
      refine tr_292_4 G  ⟨fun c9 => absurd (hB ▸ c9) Int32.lt_irrefl, fun c9 => k⟩
    | succ j ih =>
      intro z hz0 hzn
      have hih := ih (z + 1) (by omega) (by omega)
      rw [nI_succ, fz_s hz0] at hih
      have hob := ob z hz0 (by omega)
      refine tr_292_4 G  ⟨fun c9 => ?_, fun c9 => absurd (hB.symm ▸ nI_lt (by omega) hn) c9⟩
      obtain ⟨q0, hob⟩ := hob
      refine ⟨q0, ?_⟩
      intro v3 ev3
      subst ev3
      exact hih
  have L0 := L (n - z0) z0 (Nat.le_refl _) (by omega)
  simp only [fz_0] at L0
  exact L0
def V_292 (r : Nat → Int32) : Int32 := (fo (F_292_4 (r)) ((r 3)).toNatClampNeg 0)
theorem sp_292 {d : Nat} {h : mxH} {Q : mxO → mxH → Prop}  (G : mxG h)  (hcb : cB (mx_i h 382 3) 6) (k : Q (.inl (some (.int (V_292 (mx_i h 382))))) h) : mx_wp (d + 1) 292 0 (mx_fr 292 [.ref 381]) [] h Q := by
  unfold V_292 at k
  obtain ⟨n, hn, hB⟩ := hcb
  rw [hB, nI_clamp (by omega)] at k
  refine tr_292_0 G  ?_
  refine lp_292_4 (s0 := 0) 0 G  hB (by omega) (Nat.zero_le _) (fun z _ hz => ⟨vpU (by omega), trivial⟩) ?_
  simp only [fz_fo]
  exact k
/-! 293: StoneBacksModel.purses()I -/
def H_293_4 (d : Nat) (h : mxH) (i1 : Int32) (i2 : Int32) (Q : mxO → mxH → Prop) : Prop := mx_wp d 293 4 [some (.ref 381), some (.int i1), some (.int i2)] [] h Q
set_option maxRecDepth 8000 in
theorem tr_293_0 {d : Nat} {h : mxH} {Q : mxO → mxH → Prop}  (G : mxG h)  (H : H_293_4 (d + 1) h 0 0 Q) : mx_wp (d + 1) 293 0 (mx_fr 293 [.ref 381]) [] h Q := by
  show mx_wp (d + 1) 293 0 [some (.ref 381), none, none] [] h Q
  refine wp_steps (i' := 4) (ls' := [some (.ref 381), some (.int 0), some (.int 0)]) (st' := []) (h' := h) (P := True) 4 rfl rfl trivial ?_
  exact H 
set_option maxRecDepth 8000 in
theorem tr_293_4 {d : Nat} {h : mxH} {Q : mxO → mxH → Prop}  {i1 : Int32} {i2 : Int32} (G : mxG h)  (H : ((i2 < (mx_i h 382 3) → (vp_in ((33 + (6 * i2)) + (0 : Int32)) 769 ∧ H_293_4 (d + 1) h (i1 + (V_196 (mx_i h 382) i2 (0 : Int32))) (i2 + 1) Q)) ∧ (¬ i2 < (mx_i h 382 3) → Q (.inl (some (.int i1))) h))) : H_293_4 (d + 1) h i1 i2 Q := by
  show mx_wp (d + 1) 293 4 [some (.ref 381), some (.int i1), some (.int i2)] [] h Q
  refine wp_steps (i' := 9) (ls' := [some (.ref 381), some (.int i1), some (.int i2)]) (st' := [.int (mx_i h 382 3), .int i2]) (h' := h) (P := ((mxT 381).1 = 11 ∧ mxG h) ∧ (((mxT 382).1 = 50 ∧ mxG h) ∧ vp_in 3 (mxT 382).2) ∧ True) 5 rfl rfl ⟨⟨(congrArg Prod.fst sT_381), G⟩, (cA sT_382 G (vpl rfl)), trivial⟩ ?_
  refine wp_br (P := True) (c := (mx_i h 382 3) ≤ i2) (t := 19) (st' := []) rfl rfl trivial (fun c1 => ?_) (fun c1 => ?_)
  · have c1 := Int32.not_lt.mpr c1
    have H := H.2 c1
    refine wp_steps (i' := 20) (ls' := [some (.ref 381), some (.int i1), some (.int i2)]) (st' := [.int i1]) (h' := h) (P := True) 1 rfl rfl trivial ?_
    exact wp_end (o := .inl (some (.int i1))) (h' := h) (P := True) rfl rfl trivial H
  · have c1 := Int32.not_le.mp c1
    have H := H.1 c1
    refine wp_steps (i' := 14) (ls' := [some (.ref 381), some (.int i1), some (.int i2)]) (st' := [.int 0, .int i2, .ref 381, .int i1]) (h' := h) (P := True) 4 rfl rfl trivial ?_
    obtain ⟨o2, H⟩ := H
    refine wp_call (b := false) (y' := 196) (as := [.ref 381, .int i2, .int 0]) (rest := [.int i1]) (P := ((mxT 381).1 = mxRc 196 ∧ mxG h)) rfl (by with_unfolding_all rfl) ⟨(congrArg Prod.fst sT_381), G⟩ (Nat.le_of_ble_eq_true rfl) (sp_196 G o2 ?_)
    show mx_wp (d + 1) 293 15 [some (.ref 381), some (.int i1), some (.int i2)] [.int (V_196 (mx_i h 382) i2 (0 : Int32)), .int i1] h Q
    refine wp_steps (i' := 18) (ls' := [some (.ref 381), some (.int (i1 + (V_196 (mx_i h 382) i2 (0 : Int32)))), some (.int (i2 + 1))]) (st' := []) (h' := h) (P := True) 3 rfl rfl trivial ?_
    refine wp_J (j := 4) (st' := []) rfl rfl ?_
    exact H 
def F_293_4 (r : Nat → Int32) (z : Nat) (s : Int32) : Int32 := (s + (V_196 (r) (nI z) (0 : Int32)))
theorem lp_293_4 {d : Nat} {h : mxH} {Q : mxO → mxH → Prop} {s0 : Int32} {n : Nat} (z0 : Nat) (G : mxG h)  (hB : (mx_i h 382 3) = nI n) (hn : n < 2147483648) (hz : z0 ≤ n) (ob : ∀ z, z0 ≤ z → z < n → (vp_in ((33 + (6 * (nI z))) + (0 : Int32)) 769 ∧ True)) (k : Q (.inl (some (.int (fz (F_293_4 (mx_i h 382)) z0 n s0)))) h) : H_293_4 (d + 1) h s0 (nI z0) Q := by
  have L : ∀ (j z : Nat), z0 ≤ z → z + j = n → H_293_4 (d + 1) h (fz (F_293_4 (mx_i h 382)) z0 z s0) (nI z) Q := by
    intro j
    induction j with
    | zero =>
      intro z hz0 hzn
      have hzn : z = n := by omega
      subst hzn
      refine tr_293_4 G  ⟨fun c9 => absurd (hB ▸ c9) Int32.lt_irrefl, fun c9 => k⟩
    | succ j ih =>
      intro z hz0 hzn
      have hih := ih (z + 1) (by omega) (by omega)
      rw [nI_succ, fz_s hz0] at hih
      have hob := ob z hz0 (by omega)
      refine tr_293_4 G  ⟨fun c9 => ?_, fun c9 => absurd (hB.symm ▸ nI_lt (by omega) hn) c9⟩
      obtain ⟨q0, hob⟩ := hob
      refine ⟨q0, ?_⟩
      exact hih
  have L0 := L (n - z0) z0 (Nat.le_refl _) (by omega)
  simp only [fz_0] at L0
  exact L0
def V_293 (r : Nat → Int32) : Int32 := (fo (F_293_4 (r)) ((r 3)).toNatClampNeg 0)
theorem sp_293 {d : Nat} {h : mxH} {Q : mxO → mxH → Prop}  (G : mxG h)  (hcb : cB (mx_i h 382 3) 6) (k : Q (.inl (some (.int (V_293 (mx_i h 382))))) h) : mx_wp (d + 1) 293 0 (mx_fr 293 [.ref 381]) [] h Q := by
  unfold V_293 at k
  obtain ⟨n, hn, hB⟩ := hcb
  rw [hB, nI_clamp (by omega)] at k
  refine tr_293_0 G  ?_
  refine lp_293_4 (s0 := 0) 0 G  hB (by omega) (Nat.zero_le _) (fun z _ hz => ⟨vpU (by omega), trivial⟩) ?_
  simp only [fz_fo]
  exact k
/-! 296: StoneBacksModel.logged(II)I -/
set_option maxRecDepth 8000 in
theorem tr_296_0 {d : Nat} {h : mxH} {Q : mxO → mxH → Prop} {i1 : Int32} {i2 : Int32} (G : mxG h)  (H : (vp_in ((129 + (4 * i1)) + i2) 769 ∧ Q (.inl (some (.int (mx_i h 382 ((129 + (4 * i1)) + i2).toNatClampNeg)))) h)) : mx_wp d 296 0 (mx_fr 296 [.ref 381, .int i1, .int i2]) [] h Q := by
  show mx_wp d 296 0 [some (.ref 381), some (.int i1), some (.int i2)] [] h Q
  obtain ⟨o1, H⟩ := H
  refine wp_steps (i' := 10) (ls' := [some (.ref 381), some (.int i1), some (.int i2)]) (st' := [.int (mx_i h 382 ((129 + (4 * i1)) + i2).toNatClampNeg)]) (h' := h) (P := ((mxT 381).1 = 11 ∧ mxG h) ∧ (((mxT 382).1 = 50 ∧ mxG h) ∧ vp_in ((129 + (4 * i1)) + i2) (mxT 382).2) ∧ True) 10 rfl rfl ⟨⟨(congrArg Prod.fst sT_381), G⟩, (cA sT_382 G o1), trivial⟩ ?_
  exact wp_end (o := .inl (some (.int (mx_i h 382 ((129 + (4 * i1)) + i2).toNatClampNeg)))) (h' := h) (P := True) rfl rfl trivial H
def V_296 (r : Nat → Int32) (i1 : Int32) (i2 : Int32) : Int32 := (r ((129 + (4 * i1)) + i2).toNatClampNeg)
theorem sp_296 {d : Nat} {h : mxH} {Q : mxO → mxH → Prop} {i1 : Int32} {i2 : Int32} (G : mxG h)  (x0 : vp_in ((129 + (4 * i1)) + i2) 769) (k : Q (.inl (some (.int (V_296 (mx_i h 382) i1 i2)))) h) : mx_wp d 296 0 (mx_fr 296 [.ref 381, .int i1, .int i2]) [] h Q := by
  unfold V_296 at k
  have hob : (vp_in ((129 + (4 * i1)) + i2) 769 ∧ True) := ⟨x0, trivial⟩
  refine tr_296_0 G  ?_
  obtain ⟨q0, hob⟩ := hob
  refine ⟨q0, ?_⟩
  exact k
/-! 297: StoneBacksModel.led(IZ)I -/
def H_297_25 (d : Nat) (h : mxH) (i1 : Int32) (i2 : Int32) (i3 : Int32) (i4 : Int32) (i5 : Int32) (Q : mxO → mxH → Prop) : Prop := mx_wp d 297 25 [some (.ref 381), some (.int i1), some (.int i2), some (.int i3), some (.int i4), some (.int i5)] [] h Q
set_option maxRecDepth 8000 in
theorem tr_297_0 {d : Nat} {h : mxH} {Q : mxO → mxH → Prop} {i1 : Int32} {i2 : Int32} (G : mxG h)  (H : (((V_191 (mx_i h 382) i1 (0 : Int32) ((mx_i h 382 4) - 1)) = 0 ∨ (V_191 (mx_i h 382) i1 (0 : Int32) ((mx_i h 382 4) - 1)) = 1) ∧ (∀ (v2 : Int32), v2 = ((if (V_201 (mx_i h 382) i1) = 0 then 1 else 0) : Int32) → (∀ h3, h3 = mx_wi h 381 0 v2 → ((0 < (mx_i h3 381 0) → Q (.inl (some (.int 0))) h3) ∧ (¬ 0 < (mx_i h3 381 0) → H_297_25 (d + 2) h3 i1 i2 0 (-1) ((mx_i h3 382 7) - 1) Q)))))) : mx_wp (d + 2) 297 0 (mx_fr 297 [.ref 381, .int i1, .int i2]) [] h Q := by
  show mx_wp (d + 2) 297 0 [some (.ref 381), some (.int i1), some (.int i2), none, none, none] [] h Q
  refine wp_steps (i' := 3) (ls' := [some (.ref 381), some (.int i1), some (.int i2), none, none, none]) (st' := [.int i1, .ref 381, .ref 381]) (h' := h) (P := True) 3 rfl rfl trivial ?_
  obtain ⟨o1, H⟩ := H
  refine wp_call (b := false) (y' := 201) (as := [.ref 381, .int i1]) (rest := [.ref 381]) (P := ((mxT 381).1 = mxRc 201 ∧ mxG h)) rfl (by with_unfolding_all rfl) ⟨(congrArg Prod.fst sT_381), G⟩ (Nat.le_of_ble_eq_true rfl) (sp_201 G o1 ?_)
  show mx_wp (d + 2) 297 4 [some (.ref 381), some (.int i1), some (.int i2), none, none, none] [.int (V_201 (mx_i h 382) i1), .ref 381] h Q
  have J : ∀ (v2 : Int32) (ev2 : v2 = ((if (V_201 (mx_i h 382) i1) = 0 then 1 else 0) : Int32)), mx_wp (d + 2) 297 8 [some (.ref 381), some (.int i1), some (.int i2), none, none, none] [.int v2, .ref 381] h Q := by
    intro v2 ev2
    have H := H v2 ev2
    refine wp_steps (i' := 9) (ls' := [some (.ref 381), some (.int i1), some (.int i2), none, none, none]) (st' := []) (h' := mx_wi h 381 0 v2) (P := ((mxT 381).1 = 11 ∧ mxG h) ∧ True) 1 rfl rfl ⟨⟨(congrArg Prod.fst sT_381), G⟩, trivial⟩ ?_
    obtain ⟨h3, e4⟩ : ∃ z9, z9 = mx_wi h 381 0 v2 := ⟨_, rfl⟩
    rw [← e4]
    have H := H h3 e4
    have G5 : mxG h3 := e4 ▸ mxG_wi G
    refine wp_steps (i' := 11) (ls' := [some (.ref 381), some (.int i1), some (.int i2), none, none, none]) (st' := [.int (mx_i h3 381 0)]) (h' := h3) (P := ((mxT 381).1 = 11 ∧ mxG h3) ∧ True) 2 rfl rfl ⟨⟨(congrArg Prod.fst sT_381), G5⟩, trivial⟩ ?_
    refine wp_br (P := True) (c := (mx_i h3 381 0) ≤ 0) (t := 14) (st' := []) rfl rfl trivial (fun c6 => ?_) (fun c6 => ?_)
    · have c6 := Int32.not_lt.mpr c6
      have H := H.2 c6
      refine wp_steps (i' := 25) (ls' := [some (.ref 381), some (.int i1), some (.int i2), some (.int 0), some (.int (-1)), some (.int ((mx_i h3 382 7) - 1))]) (st' := []) (h' := h3) (P := ((mxT 381).1 = 11 ∧ mxG h3) ∧ (((mxT 382).1 = 50 ∧ mxG h3) ∧ vp_in 7 (mxT 382).2) ∧ True) 11 rfl rfl ⟨⟨(congrArg Prod.fst sT_381), G5⟩, (cA sT_382 G5 (vpl rfl)), trivial⟩ ?_
      exact H 
    · have c6 := Int32.not_le.mp c6
      have H := H.1 c6
      refine wp_steps (i' := 13) (ls' := [some (.ref 381), some (.int i1), some (.int i2), none, none, none]) (st' := [.int 0]) (h' := h3) (P := True) 1 rfl rfl trivial ?_
      exact wp_end (o := .inl (some (.int 0))) (h' := h3) (P := True) rfl rfl trivial H
  refine wp_br (P := True) (c := ¬ (V_201 (mx_i h 382) i1) = 0) (t := 7) (st' := [.ref 381]) rfl rfl trivial (fun c7 => ?_) (fun c7 => ?_)
  · skip
    refine wp_steps (i' := 8) (ls' := [some (.ref 381), some (.int i1), some (.int i2), none, none, none]) (st' := [.int 0, .ref 381]) (h' := h) (P := True) 1 rfl rfl trivial ?_
    exact J _ (by rw [if_neg c7])
  · have c7 := Decidable.of_not_not c7
    refine wp_steps (i' := 6) (ls' := [some (.ref 381), some (.int i1), some (.int i2), none, none, none]) (st' := [.int 1, .ref 381]) (h' := h) (P := True) 1 rfl rfl trivial ?_
    refine wp_J (j := 8) (st' := [.int 1, .ref 381]) rfl rfl ?_
    exact J _ (by rw [if_pos c7])
set_option maxRecDepth 8000 in
theorem tr_297_25 {d : Nat} {h : mxH} {Q : mxO → mxH → Prop}  {i1 : Int32} {i2 : Int32} {i3 : Int32} {i4 : Int32} {i5 : Int32} (G : mxG h)  (H : ((i5 < 0 → (∀ (v2 : Int32), v2 = ((if i2 = 0 then i3 else i4) : Int32) → Q (.inl (some (.int v2))) h)) ∧ (¬ i5 < 0 → (vp_in ((129 + (4 * i5)) + (1 : Int32)) 769 ∧ ((((V_296 (mx_i h 382) i5 (1 : Int32)) = i1 → (vp_in ((129 + (4 * i5)) + (0 : Int32)) 769 ∧ True)) ∧ (¬ (V_296 (mx_i h 382) i5 (1 : Int32)) = i1 → True)) ∧ (∀ (v5 : Int32), v5 = ((if (V_296 (mx_i h 382) i5 (1 : Int32)) = i1 then (i3 + 1) else i3) : Int32) → (∀ (v6 : Int32), v6 = ((if (V_296 (mx_i h 382) i5 (1 : Int32)) = i1 then (V_296 (mx_i h 382) i5 (0 : Int32)) else i4) : Int32) → H_297_25 (d + 2) h i1 i2 v5 v6 (i5 + (-1)) Q))))))) : H_297_25 (d + 2) h i1 i2 i3 i4 i5 Q := by
  show mx_wp (d + 2) 297 25 [some (.ref 381), some (.int i1), some (.int i2), some (.int i3), some (.int i4), some (.int i5)] [] h Q
  refine wp_steps (i' := 26) (ls' := [some (.ref 381), some (.int i1), some (.int i2), some (.int i3), some (.int i4), some (.int i5)]) (st' := [.int i5]) (h' := h) (P := True) 1 rfl rfl trivial ?_
  refine wp_br (P := True) (c := i5 < 0) (t := 42) (st' := []) rfl rfl trivial (fun c1 => ?_) (fun c1 => ?_)
  · skip
    have H := H.1 c1
    refine wp_steps (i' := 43) (ls' := [some (.ref 381), some (.int i1), some (.int i2), some (.int i3), some (.int i4), some (.int i5)]) (st' := [.int i2]) (h' := h) (P := True) 1 rfl rfl trivial ?_
    have J : ∀ (v2 : Int32) (ev2 : v2 = ((if i2 = 0 then i3 else i4) : Int32)), mx_wp (d + 2) 297 47 [some (.ref 381), some (.int i1), some (.int i2), some (.int i3), some (.int i4), some (.int i5)] [.int v2] h Q := by
      intro v2 ev2
      have H := H v2 ev2
      exact wp_end (o := .inl (some (.int v2))) (h' := h) (P := True) rfl rfl trivial H
    refine wp_br (P := True) (c := i2 = 0) (t := 46) (st' := []) rfl rfl trivial (fun c3 => ?_) (fun c3 => ?_)
    · skip
      refine wp_steps (i' := 47) (ls' := [some (.ref 381), some (.int i1), some (.int i2), some (.int i3), some (.int i4), some (.int i5)]) (st' := [.int i3]) (h' := h) (P := True) 1 rfl rfl trivial ?_
      exact J _ (by rw [if_pos c3])
    · skip
      refine wp_steps (i' := 45) (ls' := [some (.ref 381), some (.int i1), some (.int i2), some (.int i3), some (.int i4), some (.int i5)]) (st' := [.int i4]) (h' := h) (P := True) 1 rfl rfl trivial ?_
      refine wp_J (j := 47) (st' := [.int i4]) rfl rfl ?_
      exact J _ (by rw [if_neg c3])
  · skip
    have H := H.2 c1
    refine wp_steps (i' := 30) (ls' := [some (.ref 381), some (.int i1), some (.int i2), some (.int i3), some (.int i4), some (.int i5)]) (st' := [.int 1, .int i5, .ref 381]) (h' := h) (P := True) 3 rfl rfl trivial ?_
    obtain ⟨o4, H⟩ := H
    refine wp_call (b := false) (y' := 296) (as := [.ref 381, .int i5, .int 1]) (rest := []) (P := ((mxT 381).1 = mxRc 296 ∧ mxG h)) rfl (by with_unfolding_all rfl) ⟨(congrArg Prod.fst sT_381), G⟩ (Nat.le_of_ble_eq_true rfl) (sp_296 G o4 ?_)
    show mx_wp (d + 2) 297 31 [some (.ref 381), some (.int i1), some (.int i2), some (.int i3), some (.int i4), some (.int i5)] [.int (V_296 (mx_i h 382) i5 (1 : Int32))] h Q
    refine wp_steps (i' := 32) (ls' := [some (.ref 381), some (.int i1), some (.int i2), some (.int i3), some (.int i4), some (.int i5)]) (st' := [.int i1, .int (V_296 (mx_i h 382) i5 (1 : Int32))]) (h' := h) (P := True) 1 rfl rfl trivial ?_
    have J : ∀ (v5 : Int32) (v6 : Int32) (ev5 : v5 = ((if (V_296 (mx_i h 382) i5 (1 : Int32)) = i1 then (i3 + 1) else i3) : Int32)) (ev6 : v6 = ((if (V_296 (mx_i h 382) i5 (1 : Int32)) = i1 then (V_296 (mx_i h 382) i5 (0 : Int32)) else i4) : Int32)), mx_wp (d + 2) 297 40 [some (.ref 381), some (.int i1), some (.int i2), some (.int v5), some (.int v6), some (.int i5)] [] h Q := by
      intro v5 v6 ev5 ev6
      have H := H.2 v5 ev5 v6 ev6
      refine wp_steps (i' := 41) (ls' := [some (.ref 381), some (.int i1), some (.int i2), some (.int v5), some (.int v6), some (.int (i5 + (-1)))]) (st' := []) (h' := h) (P := True) 1 rfl rfl trivial ?_
      refine wp_J (j := 25) (st' := []) rfl rfl ?_
      exact H 
    have H := H.1
    refine wp_br (P := True) (c := (V_296 (mx_i h 382) i5 (1 : Int32)) = i1) (t := 34) (st' := []) rfl rfl trivial (fun c7 => ?_) (fun c7 => ?_)
    · skip
      have H := H.1 c7
      refine wp_steps (i' := 38) (ls' := [some (.ref 381), some (.int i1), some (.int i2), some (.int (i3 + 1)), some (.int i4), some (.int i5)]) (st' := [.int 0, .int i5, .ref 381]) (h' := h) (P := True) 4 rfl rfl trivial ?_
      obtain ⟨o8, H⟩ := H
      refine wp_call (b := false) (y' := 296) (as := [.ref 381, .int i5, .int 0]) (rest := []) (P := ((mxT 381).1 = mxRc 296 ∧ mxG h)) rfl (by with_unfolding_all rfl) ⟨(congrArg Prod.fst sT_381), G⟩ (Nat.le_of_ble_eq_true rfl) (sp_296 G o8 ?_)
      show mx_wp (d + 2) 297 39 [some (.ref 381), some (.int i1), some (.int i2), some (.int (i3 + 1)), some (.int i4), some (.int i5)] [.int (V_296 (mx_i h 382) i5 (0 : Int32))] h Q
      refine wp_steps (i' := 40) (ls' := [some (.ref 381), some (.int i1), some (.int i2), some (.int (i3 + 1)), some (.int (V_296 (mx_i h 382) i5 (0 : Int32))), some (.int i5)]) (st' := []) (h' := h) (P := True) 1 rfl rfl trivial ?_
      exact J _ _ (by rw [if_pos c7]) (by rw [if_pos c7])
    · skip
      refine wp_J (j := 40) (st' := []) rfl rfl ?_
      exact J _ _ (by rw [if_neg c7]) (by rw [if_neg c7])
/-! 298: StoneBacksModel.log(II)I -/
set_option maxRecDepth 8000 in
theorem tr_298_0 {d : Nat} {h : mxH} {Q : mxO → mxH → Prop} {i1 : Int32} {i2 : Int32} (G : mxG h)  (H : (∀ (v1 : Int32), v1 = ((if (V_191 (mx_i h 382) i2 (0 : Int32) (3 : Int32)) = 0 then 1 else 0) : Int32) → (∀ h2, h2 = mx_wi h 381 0 v1 → ((0 < (mx_i h2 381 0) → Q (.inl (some (.int 0))) h2) ∧ (¬ 0 < (mx_i h2 381 0) → ((((V_191 (mx_i h2 382) i1 (0 : Int32) ((mx_i h2 382 7) - 1)) = 0 → True) ∧ (¬ (V_191 (mx_i h2 382) i1 (0 : Int32) ((mx_i h2 382 7) - 1)) = 0 → (vp_in ((129 + (4 * i1)) + i2) 769 ∧ True))) ∧ (∀ (v6 : Int32), v6 = ((if (V_191 (mx_i h2 382) i1 (0 : Int32) ((mx_i h2 382 7) - 1)) = 0 then (-1) else (V_296 (mx_i h2 382) i1 i2)) : Int32) → Q (.inl (some (.int v6))) h2))))))) : mx_wp (d + 1) 298 0 (mx_fr 298 [.ref 381, .int i1, .int i2]) [] h Q := by
  show mx_wp (d + 1) 298 0 [some (.ref 381), some (.int i1), some (.int i2)] [] h Q
  refine wp_steps (i' := 4) (ls' := [some (.ref 381), some (.int i1), some (.int i2)]) (st' := [.int 3, .int 0, .int i2, .ref 381]) (h' := h) (P := True) 4 rfl rfl trivial ?_
  refine wp_call (b := false) (y' := 191) (as := [.int i2, .int 0, .int 3]) (rest := [.ref 381]) (P := True) rfl (by with_unfolding_all rfl) trivial (Nat.le_of_ble_eq_true rfl) (sp_191 G ?_)
  show mx_wp (d + 1) 298 5 [some (.ref 381), some (.int i1), some (.int i2)] [.int (V_191 (mx_i h 382) i2 (0 : Int32) (3 : Int32)), .ref 381] h Q
  have J : ∀ (v1 : Int32) (ev1 : v1 = ((if (V_191 (mx_i h 382) i2 (0 : Int32) (3 : Int32)) = 0 then 1 else 0) : Int32)), mx_wp (d + 1) 298 9 [some (.ref 381), some (.int i1), some (.int i2)] [.int v1, .ref 381] h Q := by
    intro v1 ev1
    have H := H v1 ev1
    refine wp_steps (i' := 10) (ls' := [some (.ref 381), some (.int i1), some (.int i2)]) (st' := []) (h' := mx_wi h 381 0 v1) (P := ((mxT 381).1 = 11 ∧ mxG h) ∧ True) 1 rfl rfl ⟨⟨(congrArg Prod.fst sT_381), G⟩, trivial⟩ ?_
    obtain ⟨h2, e3⟩ : ∃ z9, z9 = mx_wi h 381 0 v1 := ⟨_, rfl⟩
    rw [← e3]
    have H := H h2 e3
    have G4 : mxG h2 := e3 ▸ mxG_wi G
    refine wp_steps (i' := 12) (ls' := [some (.ref 381), some (.int i1), some (.int i2)]) (st' := [.int (mx_i h2 381 0)]) (h' := h2) (P := ((mxT 381).1 = 11 ∧ mxG h2) ∧ True) 2 rfl rfl ⟨⟨(congrArg Prod.fst sT_381), G4⟩, trivial⟩ ?_
    refine wp_br (P := True) (c := (mx_i h2 381 0) ≤ 0) (t := 15) (st' := []) rfl rfl trivial (fun c5 => ?_) (fun c5 => ?_)
    · have c5 := Int32.not_lt.mpr c5
      have H := H.2 c5
      refine wp_steps (i' := 23) (ls' := [some (.ref 381), some (.int i1), some (.int i2)]) (st' := [.int ((mx_i h2 382 7) - 1), .int 0, .int i1]) (h' := h2) (P := ((mxT 381).1 = 11 ∧ mxG h2) ∧ (((mxT 382).1 = 50 ∧ mxG h2) ∧ vp_in 7 (mxT 382).2) ∧ True) 8 rfl rfl ⟨⟨(congrArg Prod.fst sT_381), G4⟩, (cA sT_382 G4 (vpl rfl)), trivial⟩ ?_
      refine wp_call (b := false) (y' := 191) (as := [.int i1, .int 0, .int ((mx_i h2 382 7) - 1)]) (rest := []) (P := True) rfl (by with_unfolding_all rfl) trivial (Nat.le_of_ble_eq_true rfl) (sp_191 G4 ?_)
      show mx_wp (d + 1) 298 24 [some (.ref 381), some (.int i1), some (.int i2)] [.int (V_191 (mx_i h2 382) i1 (0 : Int32) ((mx_i h2 382 7) - 1))] h2 Q
      have J : ∀ (v6 : Int32) (ev6 : v6 = ((if (V_191 (mx_i h2 382) i1 (0 : Int32) ((mx_i h2 382 7) - 1)) = 0 then (-1) else (V_296 (mx_i h2 382) i1 i2)) : Int32)), mx_wp (d + 1) 298 31 [some (.ref 381), some (.int i1), some (.int i2)] [.int v6] h2 Q := by
        intro v6 ev6
        have H := H.2 v6 ev6
        exact wp_end (o := .inl (some (.int v6))) (h' := h2) (P := True) rfl rfl trivial H
      have H := H.1
      refine wp_br (P := True) (c := (V_191 (mx_i h2 382) i1 (0 : Int32) ((mx_i h2 382 7) - 1)) = 0) (t := 30) (st' := []) rfl rfl trivial (fun c7 => ?_) (fun c7 => ?_)
      · skip
        refine wp_steps (i' := 31) (ls' := [some (.ref 381), some (.int i1), some (.int i2)]) (st' := [.int (-1)]) (h' := h2) (P := True) 1 rfl rfl trivial ?_
        exact J _ (by rw [if_pos c7])
      · skip
        have H := H.2 c7
        refine wp_steps (i' := 28) (ls' := [some (.ref 381), some (.int i1), some (.int i2)]) (st' := [.int i2, .int i1, .ref 381]) (h' := h2) (P := True) 3 rfl rfl trivial ?_
        obtain ⟨o8, H⟩ := H
        refine wp_call (b := false) (y' := 296) (as := [.ref 381, .int i1, .int i2]) (rest := []) (P := ((mxT 381).1 = mxRc 296 ∧ mxG h2)) rfl (by with_unfolding_all rfl) ⟨(congrArg Prod.fst sT_381), G4⟩ (Nat.le_of_ble_eq_true rfl) (sp_296 G4 o8 ?_)
        show mx_wp (d + 1) 298 29 [some (.ref 381), some (.int i1), some (.int i2)] [.int (V_296 (mx_i h2 382) i1 i2)] h2 Q
        refine wp_J (j := 31) (st' := [.int (V_296 (mx_i h2 382) i1 i2)]) rfl rfl ?_
        exact J _ (by rw [if_neg c7])
    · have c5 := Int32.not_le.mp c5
      have H := H.1 c5
      refine wp_steps (i' := 14) (ls' := [some (.ref 381), some (.int i1), some (.int i2)]) (st' := [.int 0]) (h' := h2) (P := True) 1 rfl rfl trivial ?_
      exact wp_end (o := .inl (some (.int 0))) (h' := h2) (P := True) rfl rfl trivial H
  refine wp_br (P := True) (c := ¬ (V_191 (mx_i h 382) i2 (0 : Int32) (3 : Int32)) = 0) (t := 8) (st' := [.ref 381]) rfl rfl trivial (fun c9 => ?_) (fun c9 => ?_)
  · skip
    refine wp_steps (i' := 9) (ls' := [some (.ref 381), some (.int i1), some (.int i2)]) (st' := [.int 0, .ref 381]) (h' := h) (P := True) 1 rfl rfl trivial ?_
    exact J _ (by rw [if_neg c9])
  · have c9 := Decidable.of_not_not c9
    refine wp_steps (i' := 7) (ls' := [some (.ref 381), some (.int i1), some (.int i2)]) (st' := [.int 1, .ref 381]) (h' := h) (P := True) 1 rfl rfl trivial ?_
    refine wp_J (j := 9) (st' := [.int 1, .ref 381]) rfl rfl ?_
    exact J _ (by rw [if_pos c9])
def V_298 (h : mxH) (i1 : Int32) (i2 : Int32) : Int32 := (if 0 < (mx_i (mx_wi h 381 0 ((if (V_191 (mx_i h 382) i2 (0 : Int32) (3 : Int32)) = 0 then 1 else 0) : Int32)) 381 0) then 0 else ((if (V_191 (mx_i (mx_wi h 381 0 ((if (V_191 (mx_i h 382) i2 (0 : Int32) (3 : Int32)) = 0 then 1 else 0) : Int32)) 382) i1 (0 : Int32) ((mx_i (mx_wi h 381 0 ((if (V_191 (mx_i h 382) i2 (0 : Int32) (3 : Int32)) = 0 then 1 else 0) : Int32)) 382 7) - 1)) = 0 then (-1) else (V_296 (mx_i (mx_wi h 381 0 ((if (V_191 (mx_i h 382) i2 (0 : Int32) (3 : Int32)) = 0 then 1 else 0) : Int32)) 382) i1 i2)) : Int32))
def W_298 (h : mxH) (i1 : Int32) (i2 : Int32) : mxH := (mx_wi h 381 0 ((if (V_191 (mx_i h 382) i2 (0 : Int32) (3 : Int32)) = 0 then 1 else 0) : Int32))
theorem KW_298 {h : mxH} {i1 : Int32} {i2 : Int32} : mxK h (W_298 h i1 i2) := by
  unfold W_298
  repeat' (first | with_reducible exact mxK_rfl | with_reducible exact mxK_wi | with_reducible exact mxK_wrow | with_reducible refine mxK_ite ?_ ?_ | with_reducible refine mxK_tr ?_ mxK_wi | with_reducible refine mxK_tr ?_ mxK_wrow)
theorem sp_298 {d : Nat} {h : mxH} {Q : mxO → mxH → Prop} {i1 : Int32} {i2 : Int32} (G : mxG h)  (x0 : ((0 < (mx_i (mx_wi h 381 0 ((if (V_191 (mx_i h 382) i2 (0 : Int32) (3 : Int32)) = 0 then 1 else 0) : Int32)) 381 0) → True) ∧ (¬ 0 < (mx_i (mx_wi h 381 0 ((if (V_191 (mx_i h 382) i2 (0 : Int32) (3 : Int32)) = 0 then 1 else 0) : Int32)) 381 0) → ((((V_191 (mx_i (mx_wi h 381 0 ((if (V_191 (mx_i h 382) i2 (0 : Int32) (3 : Int32)) = 0 then 1 else 0) : Int32)) 382) i1 (0 : Int32) ((mx_i (mx_wi h 381 0 ((if (V_191 (mx_i h 382) i2 (0 : Int32) (3 : Int32)) = 0 then 1 else 0) : Int32)) 382 7) - 1)) = 0 → True) ∧ (¬ (V_191 (mx_i (mx_wi h 381 0 ((if (V_191 (mx_i h 382) i2 (0 : Int32) (3 : Int32)) = 0 then 1 else 0) : Int32)) 382) i1 (0 : Int32) ((mx_i (mx_wi h 381 0 ((if (V_191 (mx_i h 382) i2 (0 : Int32) (3 : Int32)) = 0 then 1 else 0) : Int32)) 382 7) - 1)) = 0 → (vp_in ((129 + (4 * i1)) + i2) 769 ∧ True))) ∧ True)))) (k : Q (.inl (some (.int (V_298 h i1 i2)))) (W_298 h i1 i2)) : mx_wp (d + 1) 298 0 (mx_fr 298 [.ref 381, .int i1, .int i2]) [] h Q := by
  unfold V_298 W_298 at k
  have hob : ((0 < (mx_i (mx_wi h 381 0 ((if (V_191 (mx_i h 382) i2 (0 : Int32) (3 : Int32)) = 0 then 1 else 0) : Int32)) 381 0) → True) ∧ (¬ 0 < (mx_i (mx_wi h 381 0 ((if (V_191 (mx_i h 382) i2 (0 : Int32) (3 : Int32)) = 0 then 1 else 0) : Int32)) 381 0) → ((((V_191 (mx_i (mx_wi h 381 0 ((if (V_191 (mx_i h 382) i2 (0 : Int32) (3 : Int32)) = 0 then 1 else 0) : Int32)) 382) i1 (0 : Int32) ((mx_i (mx_wi h 381 0 ((if (V_191 (mx_i h 382) i2 (0 : Int32) (3 : Int32)) = 0 then 1 else 0) : Int32)) 382 7) - 1)) = 0 → True) ∧ (¬ (V_191 (mx_i (mx_wi h 381 0 ((if (V_191 (mx_i h 382) i2 (0 : Int32) (3 : Int32)) = 0 then 1 else 0) : Int32)) 382) i1 (0 : Int32) ((mx_i (mx_wi h 381 0 ((if (V_191 (mx_i h 382) i2 (0 : Int32) (3 : Int32)) = 0 then 1 else 0) : Int32)) 382 7) - 1)) = 0 → (vp_in ((129 + (4 * i1)) + i2) 769 ∧ True))) ∧ True))) := x0
  refine tr_298_0 G  ?_
  intro v1 ev1
  subst ev1
  intro h2 eh2
  subst eh2
  refine ⟨fun c9 => ?_, fun c9 => ?_⟩
  · try simp only [if_pos c9] at k
    have hob := hob.1 c9
    exact k
  · try simp only [if_neg c9] at k
    have hob := hob.2 c9
    obtain ⟨q0, hob⟩ := hob
    refine ⟨q0, ?_⟩
    intro v6 ev6
    subst ev6
    exact k
/-! 299: StoneBacksModel.seed(I)I -/
set_option maxRecDepth 8000 in
theorem tr_299_0 {d : Nat} {h : mxH} {Q : mxO → mxH → Prop} {i1 : Int32} (G : mxG h)  (H : (∀ h1, h1 = mx_wi h 381 0 0 → (∀ h4, h4 = mx_wi h1 382 8 i1 → Q (.inl (some (.int (mx_i h1 382 8)))) h4))) : mx_wp d 299 0 (mx_fr 299 [.ref 381, .int i1]) [] h Q := by
  show mx_wp d 299 0 [some (.ref 381), some (.int i1), none] [] h Q
  refine wp_steps (i' := 3) (ls' := [some (.ref 381), some (.int i1), none]) (st' := []) (h' := mx_wi h 381 0 0) (P := ((mxT 381).1 = 11 ∧ mxG h) ∧ True) 3 rfl rfl ⟨⟨(congrArg Prod.fst sT_381), G⟩, trivial⟩ ?_
  obtain ⟨h1, e2⟩ : ∃ z9, z9 = mx_wi h 381 0 0 := ⟨_, rfl⟩
  rw [← e2]
  have H := H h1 e2
  have G3 : mxG h1 := e2 ▸ mxG_wi G
  refine wp_steps (i' := 13) (ls' := [some (.ref 381), some (.int i1), some (.int (mx_i h1 382 8))]) (st' := []) (h' := mx_wi h1 382 8 i1) (P := ((mxT 381).1 = 11 ∧ mxG h1) ∧ (((mxT 382).1 = 50 ∧ mxG h1) ∧ vp_in 8 (mxT 382).2) ∧ ((mxT 381).1 = 11 ∧ mxG h1) ∧ (((mxT 382).1 = 50 ∧ mxG h1) ∧ vp_in 8 (mxT 382).2) ∧ True) 10 rfl rfl ⟨⟨(congrArg Prod.fst sT_381), G3⟩, (cA sT_382 G3 (vpl rfl)), ⟨(congrArg Prod.fst sT_381), G3⟩, (cA sT_382 G3 (vpl rfl)), trivial⟩ ?_
  obtain ⟨h4, e5⟩ : ∃ z9, z9 = mx_wi h1 382 8 i1 := ⟨_, rfl⟩
  rw [← e5]
  have H := H h4 e5
  have G6 : mxG h4 := e5 ▸ mxG_wi G3
  refine wp_steps (i' := 14) (ls' := [some (.ref 381), some (.int i1), some (.int (mx_i h1 382 8))]) (st' := [.int (mx_i h1 382 8)]) (h' := h4) (P := True) 1 rfl rfl trivial ?_
  exact wp_end (o := .inl (some (.int (mx_i h1 382 8)))) (h' := h4) (P := True) rfl rfl trivial H
def V_299 (h : mxH) (i1 : Int32) : Int32 := (mx_i (mx_wi h 381 0 0) 382 8)
def W_299 (h : mxH) (i1 : Int32) : mxH := (mx_wi (mx_wi h 381 0 0) 382 8 i1)
theorem KW_299 {h : mxH} {i1 : Int32} : mxK h (W_299 h i1) := by
  unfold W_299
  repeat' (first | with_reducible exact mxK_rfl | with_reducible exact mxK_wi | with_reducible exact mxK_wrow | with_reducible refine mxK_ite ?_ ?_ | with_reducible refine mxK_tr ?_ mxK_wi | with_reducible refine mxK_tr ?_ mxK_wrow)
theorem sp_299 {d : Nat} {h : mxH} {Q : mxO → mxH → Prop} {i1 : Int32} (G : mxG h)  (k : Q (.inl (some (.int (V_299 h i1)))) (W_299 h i1)) : mx_wp d 299 0 (mx_fr 299 [.ref 381, .int i1]) [] h Q := by
  unfold V_299 W_299 at k
  refine tr_299_0 G  ?_
  intro h1 eh1
  subst eh1
  intro h4 eh4
  subst eh4
  exact k
/-! 300: StoneBacksModel.undo()Z -/
def H_300_16 (d : Nat) (h : mxH) (i1 : Int32) (Q : mxO → mxH → Prop) : Prop := mx_wp d 300 16 [some (.ref 381), some (.int i1)] [] h Q
set_option maxRecDepth 8000 in
theorem tr_300_0 {d : Nat} {h : mxH} {Q : mxO → mxH → Prop}  (G : mxG h)  (H : (∀ h1, h1 = mx_wi h 381 0 0 → (((mx_i h1 381 6) = 0 → Q (.inl (some (.int 0))) h1) ∧ (¬ (mx_i h1 381 6) = 0 → (∀ h5, h5 = mx_wi h1 381 6 ((mx_i h1 381 6) - 1) → H_300_16 d h5 0 Q))))) : mx_wp d 300 0 (mx_fr 300 [.ref 381]) [] h Q := by
  show mx_wp d 300 0 [some (.ref 381), none] [] h Q
  refine wp_steps (i' := 3) (ls' := [some (.ref 381), none]) (st' := []) (h' := mx_wi h 381 0 0) (P := ((mxT 381).1 = 11 ∧ mxG h) ∧ True) 3 rfl rfl ⟨⟨(congrArg Prod.fst sT_381), G⟩, trivial⟩ ?_
  obtain ⟨h1, e2⟩ : ∃ z9, z9 = mx_wi h 381 0 0 := ⟨_, rfl⟩
  rw [← e2]
  have H := H h1 e2
  have G3 : mxG h1 := e2 ▸ mxG_wi G
  refine wp_steps (i' := 5) (ls' := [some (.ref 381), none]) (st' := [.int (mx_i h1 381 6)]) (h' := h1) (P := ((mxT 381).1 = 11 ∧ mxG h1) ∧ True) 2 rfl rfl ⟨⟨(congrArg Prod.fst sT_381), G3⟩, trivial⟩ ?_
  refine wp_br (P := True) (c := ¬ (mx_i h1 381 6) = 0) (t := 8) (st' := []) rfl rfl trivial (fun c4 => ?_) (fun c4 => ?_)
  · skip
    have H := H.2 c4
    refine wp_steps (i' := 14) (ls' := [some (.ref 381), none]) (st' := []) (h' := mx_wi h1 381 6 ((mx_i h1 381 6) - 1)) (P := ((mxT 381).1 = 11 ∧ mxG h1) ∧ ((mxT 381).1 = 11 ∧ mxG h1) ∧ True) 6 rfl rfl ⟨⟨(congrArg Prod.fst sT_381), G3⟩, ⟨(congrArg Prod.fst sT_381), G3⟩, trivial⟩ ?_
    obtain ⟨h5, e6⟩ : ∃ z9, z9 = mx_wi h1 381 6 ((mx_i h1 381 6) - 1) := ⟨_, rfl⟩
    rw [← e6]
    have H := H h5 e6
    have G7 : mxG h5 := e6 ▸ mxG_wi G3
    refine wp_steps (i' := 16) (ls' := [some (.ref 381), some (.int 0)]) (st' := []) (h' := h5) (P := True) 2 rfl rfl trivial ?_
    exact H 
  · have c4 := Decidable.of_not_not c4
    have H := H.1 c4
    refine wp_steps (i' := 7) (ls' := [some (.ref 381), none]) (st' := [.int 0]) (h' := h1) (P := True) 1 rfl rfl trivial ?_
    exact wp_end (o := .inl (some (.int 0))) (h' := h1) (P := ((0 : Int32) = 0 ∨ (0 : Int32) = 1)) rfl rfl (Or.inl rfl) H
set_option maxRecDepth 8000 in
theorem tr_300_16 {d : Nat} {h : mxH} {Q : mxO → mxH → Prop}  {i1 : Int32} (G : mxG h)  (H : ((i1 < 369 → (vp_in ((369 * (mx_i h 381 6)) + i1) 4428 ∧ vp_in i1 769 ∧ (∀ h4, h4 = mx_wi h 382 i1.toNatClampNeg (mx_i h 385 ((369 * (mx_i h 381 6)) + i1).toNatClampNeg) → H_300_16 d h4 (i1 + 1) Q))) ∧ (¬ i1 < 369 → Q (.inl (some (.int 1))) h))) : H_300_16 d h i1 Q := by
  show mx_wp d 300 16 [some (.ref 381), some (.int i1)] [] h Q
  refine wp_steps (i' := 18) (ls' := [some (.ref 381), some (.int i1)]) (st' := [.int 369, .int i1]) (h' := h) (P := True) 2 rfl rfl trivial ?_
  refine wp_br (P := True) (c := 369 ≤ i1) (t := 34) (st' := []) rfl rfl trivial (fun c1 => ?_) (fun c1 => ?_)
  · have c1 := Int32.not_lt.mpr c1
    have H := H.2 c1
    refine wp_steps (i' := 35) (ls' := [some (.ref 381), some (.int i1)]) (st' := [.int 1]) (h' := h) (P := True) 1 rfl rfl trivial ?_
    exact wp_end (o := .inl (some (.int 1))) (h' := h) (P := ((1 : Int32) = 0 ∨ (1 : Int32) = 1)) rfl rfl (Or.inr rfl) H
  · have c1 := Int32.not_le.mp c1
    have H := H.1 c1
    obtain ⟨o2, o3, H⟩ := H
    refine wp_steps (i' := 32) (ls' := [some (.ref 381), some (.int i1)]) (st' := []) (h' := mx_wi h 382 i1.toNatClampNeg (mx_i h 385 ((369 * (mx_i h 381 6)) + i1).toNatClampNeg)) (P := ((mxT 381).1 = 11 ∧ mxG h) ∧ ((mxT 381).1 = 11 ∧ mxG h) ∧ ((mxT 381).1 = 11 ∧ mxG h) ∧ (((mxT 385).1 = 50 ∧ mxG h) ∧ vp_in ((369 * (mx_i h 381 6)) + i1) (mxT 385).2) ∧ (((mxT 382).1 = 50 ∧ mxG h) ∧ vp_in i1 (mxT 382).2) ∧ True) 13 rfl rfl ⟨⟨(congrArg Prod.fst sT_381), G⟩, ⟨(congrArg Prod.fst sT_381), G⟩, ⟨(congrArg Prod.fst sT_381), G⟩, (cA sT_385 G o2), (cA sT_382 G o3), trivial⟩ ?_
    obtain ⟨h4, e5⟩ : ∃ z9, z9 = mx_wi h 382 i1.toNatClampNeg (mx_i h 385 ((369 * (mx_i h 381 6)) + i1).toNatClampNeg) := ⟨_, rfl⟩
    rw [← e5]
    have H := H h4 e5
    have G6 : mxG h4 := e5 ▸ mxG_wi G
    refine wp_steps (i' := 33) (ls' := [some (.ref 381), some (.int (i1 + 1))]) (st' := []) (h' := h4) (P := True) 1 rfl rfl trivial ?_
    refine wp_J (j := 16) (st' := []) rfl rfl ?_
    exact H 
def F_300_16 (z : Nat) (s : mxH) : mxH := (mx_wi s 382 (nI z).toNatClampNeg (mx_i s 385 ((369 * (mx_i s 381 6)) + (nI z)).toNatClampNeg))
theorem K_300_16 (z : Nat) (s : mxH) : mxK s (F_300_16 z s) := by
  unfold F_300_16
  (try simp only []); repeat' (first | with_reducible exact mxK_rfl | with_reducible exact mxK_wi | with_reducible exact mxK_wrow | with_reducible refine mxK_ite ?_ ?_ | with_reducible refine mxK_tr ?_ mxK_wi | with_reducible refine mxK_tr ?_ mxK_wrow)
theorem lp_300_16 {d : Nat} {Q : mxO → mxH → Prop} {s0 : mxH} {n : Nat} (z0 : Nat) (G : mxG s0)  (hB : ∀ z, z0 ≤ z → z ≤ n → (369 : Int32) = nI n) (hn : n < 2147483648) (hz : z0 ≤ n) (ob : ∀ z, z0 ≤ z → z < n → (vp_in ((369 * (mx_i (fz F_300_16 z0 z s0) 381 6)) + (nI z)) 4428 ∧ vp_in (nI z) 769 ∧ True)) (k : Q (.inl (some (.int 1))) (fz F_300_16 z0 n s0)) : H_300_16 d s0 (nI z0) Q := by
  have L : ∀ (j z : Nat), z0 ≤ z → z + j = n → H_300_16 d (fz F_300_16 z0 z s0) (nI z) Q := by
    intro j
    induction j with
    | zero =>
      intro z hz0 hzn
      have hzn : z = n := by omega
      subst hzn
      have Gz : mxG (fz F_300_16 z0 z s0) := mxK_G (mxK_fz (g := fun s => s) (fun z s => K_300_16 z s) z0 z s0) G
      have hBz := hB z hz0 (by omega)
      refine tr_300_16 Gz  ⟨fun c9 => absurd (hBz ▸ c9) Int32.lt_irrefl, fun c9 => k⟩
    | succ j ih =>
      intro z hz0 hzn
      have hih := ih (z + 1) (by omega) (by omega)
      rw [nI_succ, fz_s hz0] at hih
      have Gz : mxG (fz F_300_16 z0 z s0) := mxK_G (mxK_fz (g := fun s => s) (fun z s => K_300_16 z s) z0 z s0) G
      have hBz := hB z hz0 (by omega)
      have hob := ob z hz0 (by omega)
      refine tr_300_16 Gz  ⟨fun c9 => ?_, fun c9 => absurd (hBz.symm ▸ nI_lt (by omega) hn) c9⟩
      obtain ⟨q0, q1, hob⟩ := hob
      refine ⟨q0, q1, ?_⟩
      intro h4 eh4
      subst eh4
      exact hih
  have L0 := L (n - z0) z0 (Nat.le_refl _) (by omega)
  simp only [fz_0] at L0
  exact L0
/-! 301: StoneBacksModel.image()V -/
def H_301_5 (d : Nat) (h : mxH) (i1 : Int32) (Q : mxO → mxH → Prop) : Prop := mx_wp d 301 5 [some (.ref 381), some (.int i1)] [] h Q
set_option maxRecDepth 8000 in
theorem tr_301_0 {d : Nat} {h : mxH} {Q : mxO → mxH → Prop}  (G : mxG h)  (H : (∀ h1, h1 = mx_wi h 381 0 0 → H_301_5 d h1 0 Q)) : mx_wp d 301 0 (mx_fr 301 [.ref 381]) [] h Q := by
  show mx_wp d 301 0 [some (.ref 381), none] [] h Q
  refine wp_steps (i' := 3) (ls' := [some (.ref 381), none]) (st' := []) (h' := mx_wi h 381 0 0) (P := ((mxT 381).1 = 11 ∧ mxG h) ∧ True) 3 rfl rfl ⟨⟨(congrArg Prod.fst sT_381), G⟩, trivial⟩ ?_
  obtain ⟨h1, e2⟩ : ∃ z9, z9 = mx_wi h 381 0 0 := ⟨_, rfl⟩
  rw [← e2]
  have H := H h1 e2
  have G3 : mxG h1 := e2 ▸ mxG_wi G
  refine wp_steps (i' := 5) (ls' := [some (.ref 381), some (.int 0)]) (st' := []) (h' := h1) (P := True) 2 rfl rfl trivial ?_
  exact H 
set_option maxRecDepth 8000 in
theorem tr_301_5 {d : Nat} {h : mxH} {Q : mxO → mxH → Prop}  {i1 : Int32} (G : mxG h)  (H : ((i1 < 769 → (vp_in i1 769 ∧ (∀ h6, h6 = mx_wi h 383 i1.toNatClampNeg (mx_i h 382 i1.toNatClampNeg) → H_301_5 d h6 (i1 + 1) Q))) ∧ (¬ i1 < 769 → (∀ h2, h2 = mx_wi h 381 3 1 → Q (.inl none) h2)))) : H_301_5 d h i1 Q := by
  show mx_wp d 301 5 [some (.ref 381), some (.int i1)] [] h Q
  refine wp_steps (i' := 7) (ls' := [some (.ref 381), some (.int i1)]) (st' := [.int 769, .int i1]) (h' := h) (P := True) 2 rfl rfl trivial ?_
  refine wp_br (P := True) (c := 769 ≤ i1) (t := 18) (st' := []) rfl rfl trivial (fun c1 => ?_) (fun c1 => ?_)
  · have c1 := Int32.not_lt.mpr c1
    have H := H.2 c1
    refine wp_steps (i' := 21) (ls' := [some (.ref 381), some (.int i1)]) (st' := []) (h' := mx_wi h 381 3 1) (P := (((mxT 381).1 = 11 ∧ mxG h) ∧ ((1 : Int32) = 0 ∨ (1 : Int32) = 1)) ∧ True) 3 rfl rfl ⟨⟨⟨(congrArg Prod.fst sT_381), G⟩, Or.inr rfl⟩, trivial⟩ ?_
    obtain ⟨h2, e3⟩ : ∃ z9, z9 = mx_wi h 381 3 1 := ⟨_, rfl⟩
    rw [← e3]
    have H := H h2 e3
    have G4 : mxG h2 := e3 ▸ mxG_wi G
    exact wp_end (o := .inl none) (h' := h2) (P := True) rfl rfl trivial H
  · have c1 := Int32.not_le.mp c1
    have H := H.1 c1
    obtain ⟨o5, H⟩ := H
    refine wp_steps (i' := 16) (ls' := [some (.ref 381), some (.int i1)]) (st' := []) (h' := mx_wi h 383 i1.toNatClampNeg (mx_i h 382 i1.toNatClampNeg)) (P := ((mxT 381).1 = 11 ∧ mxG h) ∧ ((mxT 381).1 = 11 ∧ mxG h) ∧ (((mxT 382).1 = 50 ∧ mxG h) ∧ vp_in i1 (mxT 382).2) ∧ (((mxT 383).1 = 50 ∧ mxG h) ∧ vp_in i1 (mxT 383).2) ∧ True) 8 rfl rfl ⟨⟨(congrArg Prod.fst sT_381), G⟩, ⟨(congrArg Prod.fst sT_381), G⟩, (cA sT_382 G o5), (cA sT_383 G o5), trivial⟩ ?_
    obtain ⟨h6, e7⟩ : ∃ z9, z9 = mx_wi h 383 i1.toNatClampNeg (mx_i h 382 i1.toNatClampNeg) := ⟨_, rfl⟩
    rw [← e7]
    have H := H h6 e7
    have G8 : mxG h6 := e7 ▸ mxG_wi G
    refine wp_steps (i' := 17) (ls' := [some (.ref 381), some (.int (i1 + 1))]) (st' := []) (h' := h6) (P := True) 1 rfl rfl trivial ?_
    refine wp_J (j := 5) (st' := []) rfl rfl ?_
    exact H 
def F_301_5 (z : Nat) (s : mxH) : mxH := (mx_wi s 383 (nI z).toNatClampNeg (mx_i s 382 (nI z).toNatClampNeg))
theorem K_301_5 (z : Nat) (s : mxH) : mxK s (F_301_5 z s) := by
  unfold F_301_5
  (try simp only []); repeat' (first | with_reducible exact mxK_rfl | with_reducible exact mxK_wi | with_reducible exact mxK_wrow | with_reducible refine mxK_ite ?_ ?_ | with_reducible refine mxK_tr ?_ mxK_wi | with_reducible refine mxK_tr ?_ mxK_wrow)
theorem lp_301_5 {d : Nat} {Q : mxO → mxH → Prop} {s0 : mxH} {n : Nat} (z0 : Nat) (G : mxG s0)  (hB : ∀ z, z0 ≤ z → z ≤ n → (769 : Int32) = nI n) (hn : n < 2147483648) (hz : z0 ≤ n) (ob : ∀ z, z0 ≤ z → z < n → (vp_in (nI z) 769 ∧ True)) (k : (∀ h2, h2 = mx_wi (fz F_301_5 z0 n s0) 381 3 1 → Q (.inl none) h2)) : H_301_5 d s0 (nI z0) Q := by
  have L : ∀ (j z : Nat), z0 ≤ z → z + j = n → H_301_5 d (fz F_301_5 z0 z s0) (nI z) Q := by
    intro j
    induction j with
    | zero =>
      intro z hz0 hzn
      have hzn : z = n := by omega
      subst hzn
      have Gz : mxG (fz F_301_5 z0 z s0) := mxK_G (mxK_fz (g := fun s => s) (fun z s => K_301_5 z s) z0 z s0) G
      have hBz := hB z hz0 (by omega)
      refine tr_301_5 Gz  ⟨fun c9 => absurd (hBz ▸ c9) Int32.lt_irrefl, fun c9 => k⟩
    | succ j ih =>
      intro z hz0 hzn
      have hih := ih (z + 1) (by omega) (by omega)
      rw [nI_succ, fz_s hz0] at hih
      have Gz : mxG (fz F_301_5 z0 z s0) := mxK_G (mxK_fz (g := fun s => s) (fun z s => K_301_5 z s) z0 z s0) G
      have hBz := hB z hz0 (by omega)
      have hob := ob z hz0 (by omega)
      refine tr_301_5 Gz  ⟨fun c9 => ?_, fun c9 => absurd (hBz.symm ▸ nI_lt (by omega) hn) c9⟩
      obtain ⟨q0, hob⟩ := hob
      refine ⟨q0, ?_⟩
      intro h6 eh6
      subst eh6
      exact hih
  have L0 := L (n - z0) z0 (Nat.le_refl _) (by omega)
  simp only [fz_0] at L0
  exact L0
/-! 302: StoneBacksModel.back()Z -/
def H_302_10 (d : Nat) (h : mxH) (i1 : Int32) (Q : mxO → mxH → Prop) : Prop := mx_wp d 302 10 [some (.ref 381), some (.int i1)] [] h Q
set_option maxRecDepth 8000 in
theorem tr_302_0 {d : Nat} {h : mxH} {Q : mxO → mxH → Prop}  (G : mxG h)  (H : (∀ h1, h1 = mx_wi h 381 0 0 → (((mx_i h1 381 3) = 0 → Q (.inl (some (.int 0))) h1) ∧ (¬ (mx_i h1 381 3) = 0 → H_302_10 d h1 0 Q)))) : mx_wp d 302 0 (mx_fr 302 [.ref 381]) [] h Q := by
  show mx_wp d 302 0 [some (.ref 381), none] [] h Q
  refine wp_steps (i' := 3) (ls' := [some (.ref 381), none]) (st' := []) (h' := mx_wi h 381 0 0) (P := ((mxT 381).1 = 11 ∧ mxG h) ∧ True) 3 rfl rfl ⟨⟨(congrArg Prod.fst sT_381), G⟩, trivial⟩ ?_
  obtain ⟨h1, e2⟩ : ∃ z9, z9 = mx_wi h 381 0 0 := ⟨_, rfl⟩
  rw [← e2]
  have H := H h1 e2
  have G3 : mxG h1 := e2 ▸ mxG_wi G
  refine wp_steps (i' := 5) (ls' := [some (.ref 381), none]) (st' := [.int (mx_i h1 381 3)]) (h' := h1) (P := ((mxT 381).1 = 11 ∧ mxG h1) ∧ True) 2 rfl rfl ⟨⟨(congrArg Prod.fst sT_381), G3⟩, trivial⟩ ?_
  refine wp_br (P := True) (c := ¬ (mx_i h1 381 3) = 0) (t := 8) (st' := []) rfl rfl trivial (fun c4 => ?_) (fun c4 => ?_)
  · skip
    have H := H.2 c4
    refine wp_steps (i' := 10) (ls' := [some (.ref 381), some (.int 0)]) (st' := []) (h' := h1) (P := True) 2 rfl rfl trivial ?_
    exact H 
  · have c4 := Decidable.of_not_not c4
    have H := H.1 c4
    refine wp_steps (i' := 7) (ls' := [some (.ref 381), none]) (st' := [.int 0]) (h' := h1) (P := True) 1 rfl rfl trivial ?_
    exact wp_end (o := .inl (some (.int 0))) (h' := h1) (P := ((0 : Int32) = 0 ∨ (0 : Int32) = 1)) rfl rfl (Or.inl rfl) H
set_option maxRecDepth 8000 in
theorem tr_302_10 {d : Nat} {h : mxH} {Q : mxO → mxH → Prop}  {i1 : Int32} (G : mxG h)  (H : ((i1 < 769 → (vp_in i1 769 ∧ (∀ h6, h6 = mx_wi h 382 i1.toNatClampNeg (mx_i h 383 i1.toNatClampNeg) → H_302_10 d h6 (i1 + 1) Q))) ∧ (¬ i1 < 769 → (∀ h2, h2 = mx_wi h 381 6 0 → Q (.inl (some (.int 1))) h2)))) : H_302_10 d h i1 Q := by
  show mx_wp d 302 10 [some (.ref 381), some (.int i1)] [] h Q
  refine wp_steps (i' := 12) (ls' := [some (.ref 381), some (.int i1)]) (st' := [.int 769, .int i1]) (h' := h) (P := True) 2 rfl rfl trivial ?_
  refine wp_br (P := True) (c := 769 ≤ i1) (t := 23) (st' := []) rfl rfl trivial (fun c1 => ?_) (fun c1 => ?_)
  · have c1 := Int32.not_lt.mpr c1
    have H := H.2 c1
    refine wp_steps (i' := 26) (ls' := [some (.ref 381), some (.int i1)]) (st' := []) (h' := mx_wi h 381 6 0) (P := ((mxT 381).1 = 11 ∧ mxG h) ∧ True) 3 rfl rfl ⟨⟨(congrArg Prod.fst sT_381), G⟩, trivial⟩ ?_
    obtain ⟨h2, e3⟩ : ∃ z9, z9 = mx_wi h 381 6 0 := ⟨_, rfl⟩
    rw [← e3]
    have H := H h2 e3
    have G4 : mxG h2 := e3 ▸ mxG_wi G
    refine wp_steps (i' := 27) (ls' := [some (.ref 381), some (.int i1)]) (st' := [.int 1]) (h' := h2) (P := True) 1 rfl rfl trivial ?_
    exact wp_end (o := .inl (some (.int 1))) (h' := h2) (P := ((1 : Int32) = 0 ∨ (1 : Int32) = 1)) rfl rfl (Or.inr rfl) H
  · have c1 := Int32.not_le.mp c1
    have H := H.1 c1
    obtain ⟨o5, H⟩ := H
    refine wp_steps (i' := 21) (ls' := [some (.ref 381), some (.int i1)]) (st' := []) (h' := mx_wi h 382 i1.toNatClampNeg (mx_i h 383 i1.toNatClampNeg)) (P := ((mxT 381).1 = 11 ∧ mxG h) ∧ ((mxT 381).1 = 11 ∧ mxG h) ∧ (((mxT 383).1 = 50 ∧ mxG h) ∧ vp_in i1 (mxT 383).2) ∧ (((mxT 382).1 = 50 ∧ mxG h) ∧ vp_in i1 (mxT 382).2) ∧ True) 8 rfl rfl ⟨⟨(congrArg Prod.fst sT_381), G⟩, ⟨(congrArg Prod.fst sT_381), G⟩, (cA sT_383 G o5), (cA sT_382 G o5), trivial⟩ ?_
    obtain ⟨h6, e7⟩ : ∃ z9, z9 = mx_wi h 382 i1.toNatClampNeg (mx_i h 383 i1.toNatClampNeg) := ⟨_, rfl⟩
    rw [← e7]
    have H := H h6 e7
    have G8 : mxG h6 := e7 ▸ mxG_wi G
    refine wp_steps (i' := 22) (ls' := [some (.ref 381), some (.int (i1 + 1))]) (st' := []) (h' := h6) (P := True) 1 rfl rfl trivial ?_
    refine wp_J (j := 10) (st' := []) rfl rfl ?_
    exact H 
def F_302_10 (z : Nat) (s : mxH) : mxH := (mx_wi s 382 (nI z).toNatClampNeg (mx_i s 383 (nI z).toNatClampNeg))
theorem K_302_10 (z : Nat) (s : mxH) : mxK s (F_302_10 z s) := by
  unfold F_302_10
  (try simp only []); repeat' (first | with_reducible exact mxK_rfl | with_reducible exact mxK_wi | with_reducible exact mxK_wrow | with_reducible refine mxK_ite ?_ ?_ | with_reducible refine mxK_tr ?_ mxK_wi | with_reducible refine mxK_tr ?_ mxK_wrow)
theorem lp_302_10 {d : Nat} {Q : mxO → mxH → Prop} {s0 : mxH} {n : Nat} (z0 : Nat) (G : mxG s0)  (hB : ∀ z, z0 ≤ z → z ≤ n → (769 : Int32) = nI n) (hn : n < 2147483648) (hz : z0 ≤ n) (ob : ∀ z, z0 ≤ z → z < n → (vp_in (nI z) 769 ∧ True)) (k : (∀ h2, h2 = mx_wi (fz F_302_10 z0 n s0) 381 6 0 → Q (.inl (some (.int 1))) h2)) : H_302_10 d s0 (nI z0) Q := by
  have L : ∀ (j z : Nat), z0 ≤ z → z + j = n → H_302_10 d (fz F_302_10 z0 z s0) (nI z) Q := by
    intro j
    induction j with
    | zero =>
      intro z hz0 hzn
      have hzn : z = n := by omega
      subst hzn
      have Gz : mxG (fz F_302_10 z0 z s0) := mxK_G (mxK_fz (g := fun s => s) (fun z s => K_302_10 z s) z0 z s0) G
      have hBz := hB z hz0 (by omega)
      refine tr_302_10 Gz  ⟨fun c9 => absurd (hBz ▸ c9) Int32.lt_irrefl, fun c9 => k⟩
    | succ j ih =>
      intro z hz0 hzn
      have hih := ih (z + 1) (by omega) (by omega)
      rw [nI_succ, fz_s hz0] at hih
      have Gz : mxG (fz F_302_10 z0 z s0) := mxK_G (mxK_fz (g := fun s => s) (fun z s => K_302_10 z s) z0 z s0) G
      have hBz := hB z hz0 (by omega)
      have hob := ob z hz0 (by omega)
      refine tr_302_10 Gz  ⟨fun c9 => ?_, fun c9 => absurd (hBz.symm ▸ nI_lt (by omega) hn) c9⟩
      obtain ⟨q0, hob⟩ := hob
      refine ⟨q0, ?_⟩
      intro h6 eh6
      subst eh6
      exact hih
  have L0 := L (n - z0) z0 (Nat.le_refl _) (by omega)
  simp only [fz_0] at L0
  exact L0
/-! 303: StoneBacksModel.stonesOf(I)I -/
def H_303_4 (d : Nat) (h : mxH) (i1 : Int32) (i2 : Int32) (i3 : Int32) (Q : mxO → mxH → Prop) : Prop := mx_wp d 303 4 [some (.ref 381), some (.int i1), some (.int i2), some (.int i3)] [] h Q
set_option maxRecDepth 8000 in
theorem tr_303_0 {d : Nat} {h : mxH} {Q : mxO → mxH → Prop} {i1 : Int32} (G : mxG h)  (H : H_303_4 (d + 1) h i1 0 0 Q) : mx_wp (d + 1) 303 0 (mx_fr 303 [.ref 381, .int i1]) [] h Q := by
  show mx_wp (d + 1) 303 0 [some (.ref 381), some (.int i1), none, none] [] h Q
  refine wp_steps (i' := 4) (ls' := [some (.ref 381), some (.int i1), some (.int 0), some (.int 0)]) (st' := []) (h' := h) (P := True) 4 rfl rfl trivial ?_
  exact H 
set_option maxRecDepth 8000 in
theorem tr_303_4 {d : Nat} {h : mxH} {Q : mxO → mxH → Prop}  {i1 : Int32} {i2 : Int32} {i3 : Int32} (G : mxG h)  (H : ((i3 < (mx_i h 382 4) → (vp_in ((69 + (6 * i3)) + (3 : Int32)) 769 ∧ (∀ (v3 : Int32), v3 = ((if (V_198 (mx_i h 382) i3 (3 : Int32)) = i1 then ((1 : Int32) <<< (i3 &&& 31)) else 0) : Int32) → H_303_4 (d + 1) h i1 (i2 ||| v3) (i3 + 1) Q))) ∧ (¬ i3 < (mx_i h 382 4) → Q (.inl (some (.int i2))) h))) : H_303_4 (d + 1) h i1 i2 i3 Q := by
  show mx_wp (d + 1) 303 4 [some (.ref 381), some (.int i1), some (.int i2), some (.int i3)] [] h Q
  refine wp_steps (i' := 9) (ls' := [some (.ref 381), some (.int i1), some (.int i2), some (.int i3)]) (st' := [.int (mx_i h 382 4), .int i3]) (h' := h) (P := ((mxT 381).1 = 11 ∧ mxG h) ∧ (((mxT 382).1 = 50 ∧ mxG h) ∧ vp_in 4 (mxT 382).2) ∧ True) 5 rfl rfl ⟨⟨(congrArg Prod.fst sT_381), G⟩, (cA sT_382 G (vpl rfl)), trivial⟩ ?_
  refine wp_br (P := True) (c := (mx_i h 382 4) ≤ i3) (t := 26) (st' := []) rfl rfl trivial (fun c1 => ?_) (fun c1 => ?_)
  · have c1 := Int32.not_lt.mpr c1
    have H := H.2 c1
    refine wp_steps (i' := 27) (ls' := [some (.ref 381), some (.int i1), some (.int i2), some (.int i3)]) (st' := [.int i2]) (h' := h) (P := True) 1 rfl rfl trivial ?_
    exact wp_end (o := .inl (some (.int i2))) (h' := h) (P := True) rfl rfl trivial H
  · have c1 := Int32.not_le.mp c1
    have H := H.1 c1
    refine wp_steps (i' := 14) (ls' := [some (.ref 381), some (.int i1), some (.int i2), some (.int i3)]) (st' := [.int 3, .int i3, .ref 381, .int i2]) (h' := h) (P := True) 4 rfl rfl trivial ?_
    obtain ⟨o2, H⟩ := H
    refine wp_call (b := false) (y' := 198) (as := [.ref 381, .int i3, .int 3]) (rest := [.int i2]) (P := ((mxT 381).1 = mxRc 198 ∧ mxG h)) rfl (by with_unfolding_all rfl) ⟨(congrArg Prod.fst sT_381), G⟩ (Nat.le_of_ble_eq_true rfl) (sp_198 G o2 ?_)
    show mx_wp (d + 1) 303 15 [some (.ref 381), some (.int i1), some (.int i2), some (.int i3)] [.int (V_198 (mx_i h 382) i3 (3 : Int32)), .int i2] h Q
    refine wp_steps (i' := 16) (ls' := [some (.ref 381), some (.int i1), some (.int i2), some (.int i3)]) (st' := [.int i1, .int (V_198 (mx_i h 382) i3 (3 : Int32)), .int i2]) (h' := h) (P := True) 1 rfl rfl trivial ?_
    have J : ∀ (v3 : Int32) (ev3 : v3 = ((if (V_198 (mx_i h 382) i3 (3 : Int32)) = i1 then ((1 : Int32) <<< (i3 &&& 31)) else 0) : Int32)), mx_wp (d + 1) 303 22 [some (.ref 381), some (.int i1), some (.int i2), some (.int i3)] [.int v3, .int i2] h Q := by
      intro v3 ev3
      have H := H v3 ev3
      refine wp_steps (i' := 25) (ls' := [some (.ref 381), some (.int i1), some (.int (i2 ||| v3)), some (.int (i3 + 1))]) (st' := []) (h' := h) (P := True) 3 rfl rfl trivial ?_
      refine wp_J (j := 4) (st' := []) rfl rfl ?_
      exact H 
    refine wp_br (P := True) (c := ¬ (V_198 (mx_i h 382) i3 (3 : Int32)) = i1) (t := 21) (st' := [.int i2]) rfl rfl trivial (fun c4 => ?_) (fun c4 => ?_)
    · skip
      refine wp_steps (i' := 22) (ls' := [some (.ref 381), some (.int i1), some (.int i2), some (.int i3)]) (st' := [.int 0, .int i2]) (h' := h) (P := True) 1 rfl rfl trivial ?_
      exact J _ (by rw [if_neg c4])
    · have c4 := Decidable.of_not_not c4
      refine wp_steps (i' := 20) (ls' := [some (.ref 381), some (.int i1), some (.int i2), some (.int i3)]) (st' := [.int ((1 : Int32) <<< (i3 &&& 31)), .int i2]) (h' := h) (P := True) 3 rfl rfl trivial ?_
      refine wp_J (j := 22) (st' := [.int ((1 : Int32) <<< (i3 &&& 31)), .int i2]) rfl rfl ?_
      exact J _ (by rw [if_pos c4])
def F_303_4 (r : Nat → Int32) (i1 : Int32) (z : Nat) (s : Int32) : Int32 := (s ||| ((if (V_198 (r) (nI z) (3 : Int32)) = i1 then ((1 : Int32) <<< ((nI z) &&& 31)) else 0) : Int32))
theorem lp_303_4 {d : Nat} {h : mxH} {Q : mxO → mxH → Prop} {i1 : Int32} {s0 : Int32} {n : Nat} (z0 : Nat) (G : mxG h)  (hB : (mx_i h 382 4) = nI n) (hn : n < 2147483648) (hz : z0 ≤ n) (ob : ∀ z, z0 ≤ z → z < n → (vp_in ((69 + (6 * (nI z))) + (3 : Int32)) 769 ∧ True)) (k : Q (.inl (some (.int (fz (F_303_4 (mx_i h 382) i1) z0 n s0)))) h) : H_303_4 (d + 1) h i1 s0 (nI z0) Q := by
  have L : ∀ (j z : Nat), z0 ≤ z → z + j = n → H_303_4 (d + 1) h i1 (fz (F_303_4 (mx_i h 382) i1) z0 z s0) (nI z) Q := by
    intro j
    induction j with
    | zero =>
      intro z hz0 hzn
      have hzn : z = n := by omega
      subst hzn
      refine tr_303_4 G  ⟨fun c9 => absurd (hB ▸ c9) Int32.lt_irrefl, fun c9 => k⟩
    | succ j ih =>
      intro z hz0 hzn
      have hih := ih (z + 1) (by omega) (by omega)
      rw [nI_succ, fz_s hz0] at hih
      have hob := ob z hz0 (by omega)
      refine tr_303_4 G  ⟨fun c9 => ?_, fun c9 => absurd (hB.symm ▸ nI_lt (by omega) hn) c9⟩
      obtain ⟨q0, hob⟩ := hob
      refine ⟨q0, ?_⟩
      intro v3 ev3
      subst ev3
      exact hih
  have L0 := L (n - z0) z0 (Nat.le_refl _) (by omega)
  simp only [fz_0] at L0
  exact L0
def V_303 (r : Nat → Int32) (i1 : Int32) : Int32 := (fo (F_303_4 (r) i1) ((r 4)).toNatClampNeg 0)
theorem sp_303 {d : Nat} {h : mxH} {Q : mxO → mxH → Prop} {i1 : Int32} (G : mxG h)  (hcb : cB (mx_i h 382 4) 10) (k : Q (.inl (some (.int (V_303 (mx_i h 382) i1)))) h) : mx_wp (d + 1) 303 0 (mx_fr 303 [.ref 381, .int i1]) [] h Q := by
  unfold V_303 at k
  obtain ⟨n, hn, hB⟩ := hcb
  rw [hB, nI_clamp (by omega)] at k
  refine tr_303_0 G  ?_
  refine lp_303_4 (s0 := 0) 0 G  hB (by omega) (Nat.zero_le _) (fun z _ hz => ⟨vpS (by omega), trivial⟩) ?_
  simp only [fz_fo]
  exact k
/-! 304: StoneBacksModel.count(I)I -/
set_option maxRecDepth 8000 in
theorem tr_304_0 {d : Nat} {h : mxH} {Q : mxO → mxH → Prop} {i1 : Int32} (G : mxG h)  (H : (∀ h1, h1 = mx_wi h 381 0 0 → ((i1 = 0 → Q (.inl (some (.int (mx_i h1 382 3)))) h1) ∧ (¬ i1 = 0 → ((i1 = 1 → Q (.inl (some (.int (mx_i h1 382 4)))) h1) ∧ (¬ i1 = 1 → ((i1 = 2 → Q (.inl (some (.int (mx_i h1 382 0)))) h1) ∧ (¬ i1 = 2 → ((i1 = 3 → Q (.inl (some (.int (mx_i h1 382 1)))) h1) ∧ (¬ i1 = 3 → ((i1 = 4 → Q (.inl (some (.int (mx_i h1 382 5)))) h1) ∧ (¬ i1 = 4 → ((i1 = 5 → Q (.inl (some (.int (mx_i h1 382 6)))) h1) ∧ (¬ i1 = 5 → ((i1 = 6 → (cB (mx_i h1 382 3) 6 ∧ Q (.inl (some (.int (V_293 (mx_i h1 382))))) h1)) ∧ (¬ i1 = 6 → (((V_191 (mx_i h1 382) i1 (7 : Int32) (9 : Int32)) = 0 → ((i1 = 10 → (cB (mx_i h1 382 4) 10 ∧ Q (.inl (some (.int (V_289 (mx_i h1 382))))) h1)) ∧ (¬ i1 = 10 → ((i1 = 11 → (cB (mx_i h1 382 3) 6 ∧ Q (.inl (some (.int (V_292 (mx_i h1 382))))) h1)) ∧ (¬ i1 = 11 → ((i1 = 12 → Q (.inl (some (.int (mx_i h1 382 7)))) h1) ∧ (¬ i1 = 12 → (∀ (v15 : Int32), v15 = ((if i1 = 13 then (mx_i h1 381 6) else (-1)) : Int32) → Q (.inl (some (.int v15))) h1)))))))) ∧ (¬ (V_191 (mx_i h1 382) i1 (7 : Int32) (9 : Int32)) = 0 → (cB (mx_i h1 382 4) 10 ∧ Q (.inl (some (.int (V_303 (mx_i h1 382) (i1 - 7))))) h1))))))))))))))))))) : mx_wp (d + 2) 304 0 (mx_fr 304 [.ref 381, .int i1]) [] h Q := by
  show mx_wp (d + 2) 304 0 [some (.ref 381), some (.int i1)] [] h Q
  refine wp_steps (i' := 3) (ls' := [some (.ref 381), some (.int i1)]) (st' := []) (h' := mx_wi h 381 0 0) (P := ((mxT 381).1 = 11 ∧ mxG h) ∧ True) 3 rfl rfl ⟨⟨(congrArg Prod.fst sT_381), G⟩, trivial⟩ ?_
  obtain ⟨h1, e2⟩ : ∃ z9, z9 = mx_wi h 381 0 0 := ⟨_, rfl⟩
  rw [← e2]
  have H := H h1 e2
  have G3 : mxG h1 := e2 ▸ mxG_wi G
  refine wp_steps (i' := 4) (ls' := [some (.ref 381), some (.int i1)]) (st' := [.int i1]) (h' := h1) (P := True) 1 rfl rfl trivial ?_
  refine wp_br (P := True) (c := ¬ i1 = 0) (t := 10) (st' := []) rfl rfl trivial (fun c4 => ?_) (fun c4 => ?_)
  · skip
    have H := H.2 c4
    refine wp_steps (i' := 12) (ls' := [some (.ref 381), some (.int i1)]) (st' := [.int 1, .int i1]) (h' := h1) (P := True) 2 rfl rfl trivial ?_
    refine wp_br (P := True) (c := ¬ i1 = 1) (t := 18) (st' := []) rfl rfl trivial (fun c5 => ?_) (fun c5 => ?_)
    · skip
      have H := H.2 c5
      refine wp_steps (i' := 20) (ls' := [some (.ref 381), some (.int i1)]) (st' := [.int 2, .int i1]) (h' := h1) (P := True) 2 rfl rfl trivial ?_
      refine wp_br (P := True) (c := ¬ i1 = 2) (t := 26) (st' := []) rfl rfl trivial (fun c6 => ?_) (fun c6 => ?_)
      · skip
        have H := H.2 c6
        refine wp_steps (i' := 28) (ls' := [some (.ref 381), some (.int i1)]) (st' := [.int 3, .int i1]) (h' := h1) (P := True) 2 rfl rfl trivial ?_
        refine wp_br (P := True) (c := ¬ i1 = 3) (t := 34) (st' := []) rfl rfl trivial (fun c7 => ?_) (fun c7 => ?_)
        · skip
          have H := H.2 c7
          refine wp_steps (i' := 36) (ls' := [some (.ref 381), some (.int i1)]) (st' := [.int 4, .int i1]) (h' := h1) (P := True) 2 rfl rfl trivial ?_
          refine wp_br (P := True) (c := ¬ i1 = 4) (t := 42) (st' := []) rfl rfl trivial (fun c8 => ?_) (fun c8 => ?_)
          · skip
            have H := H.2 c8
            refine wp_steps (i' := 44) (ls' := [some (.ref 381), some (.int i1)]) (st' := [.int 5, .int i1]) (h' := h1) (P := True) 2 rfl rfl trivial ?_
            refine wp_br (P := True) (c := ¬ i1 = 5) (t := 50) (st' := []) rfl rfl trivial (fun c9 => ?_) (fun c9 => ?_)
            · skip
              have H := H.2 c9
              refine wp_steps (i' := 52) (ls' := [some (.ref 381), some (.int i1)]) (st' := [.int 6, .int i1]) (h' := h1) (P := True) 2 rfl rfl trivial ?_
              refine wp_br (P := True) (c := ¬ i1 = 6) (t := 56) (st' := []) rfl rfl trivial (fun c10 => ?_) (fun c10 => ?_)
              · skip
                have H := H.2 c10
                refine wp_steps (i' := 59) (ls' := [some (.ref 381), some (.int i1)]) (st' := [.int 9, .int 7, .int i1]) (h' := h1) (P := True) 3 rfl rfl trivial ?_
                refine wp_call (b := false) (y' := 191) (as := [.int i1, .int 7, .int 9]) (rest := []) (P := True) rfl (by with_unfolding_all rfl) trivial (Nat.le_of_ble_eq_true rfl) (sp_191 G3 ?_)
                show mx_wp (d + 2) 304 60 [some (.ref 381), some (.int i1)] [.int (V_191 (mx_i h1 382) i1 (7 : Int32) (9 : Int32))] h1 Q
                refine wp_br (P := True) (c := (V_191 (mx_i h1 382) i1 (7 : Int32) (9 : Int32)) = 0) (t := 67) (st' := []) rfl rfl trivial (fun c11 => ?_) (fun c11 => ?_)
                · skip
                  have H := H.1 c11
                  refine wp_steps (i' := 69) (ls' := [some (.ref 381), some (.int i1)]) (st' := [.int 10, .int i1]) (h' := h1) (P := True) 2 rfl rfl trivial ?_
                  refine wp_br (P := True) (c := ¬ i1 = 10) (t := 73) (st' := []) rfl rfl trivial (fun c12 => ?_) (fun c12 => ?_)
                  · skip
                    have H := H.2 c12
                    refine wp_steps (i' := 75) (ls' := [some (.ref 381), some (.int i1)]) (st' := [.int 11, .int i1]) (h' := h1) (P := True) 2 rfl rfl trivial ?_
                    refine wp_br (P := True) (c := ¬ i1 = 11) (t := 79) (st' := []) rfl rfl trivial (fun c13 => ?_) (fun c13 => ?_)
                    · skip
                      have H := H.2 c13
                      refine wp_steps (i' := 81) (ls' := [some (.ref 381), some (.int i1)]) (st' := [.int 12, .int i1]) (h' := h1) (P := True) 2 rfl rfl trivial ?_
                      refine wp_br (P := True) (c := ¬ i1 = 12) (t := 87) (st' := []) rfl rfl trivial (fun c14 => ?_) (fun c14 => ?_)
                      · skip
                        have H := H.2 c14
                        refine wp_steps (i' := 89) (ls' := [some (.ref 381), some (.int i1)]) (st' := [.int 13, .int i1]) (h' := h1) (P := True) 2 rfl rfl trivial ?_
                        have J : ∀ (v15 : Int32) (ev15 : v15 = ((if i1 = 13 then (mx_i h1 381 6) else (-1)) : Int32)), mx_wp (d + 2) 304 94 [some (.ref 381), some (.int i1)] [.int v15] h1 Q := by
                          intro v15 ev15
                          have H := H v15 ev15
                          exact wp_end (o := .inl (some (.int v15))) (h' := h1) (P := True) rfl rfl trivial H
                        refine wp_br (P := True) (c := ¬ i1 = 13) (t := 93) (st' := []) rfl rfl trivial (fun c16 => ?_) (fun c16 => ?_)
                        · skip
                          refine wp_steps (i' := 94) (ls' := [some (.ref 381), some (.int i1)]) (st' := [.int (-1)]) (h' := h1) (P := True) 1 rfl rfl trivial ?_
                          exact J _ (by rw [if_neg c16])
                        · have c16 := Decidable.of_not_not c16
                          refine wp_steps (i' := 92) (ls' := [some (.ref 381), some (.int i1)]) (st' := [.int (mx_i h1 381 6)]) (h' := h1) (P := ((mxT 381).1 = 11 ∧ mxG h1) ∧ True) 2 rfl rfl ⟨⟨(congrArg Prod.fst sT_381), G3⟩, trivial⟩ ?_
                          refine wp_J (j := 94) (st' := [.int (mx_i h1 381 6)]) rfl rfl ?_
                          exact J _ (by rw [if_pos c16])
                      · have c14 := Decidable.of_not_not c14
                        have H := H.1 c14
                        refine wp_steps (i' := 86) (ls' := [some (.ref 381), some (.int i1)]) (st' := [.int (mx_i h1 382 7)]) (h' := h1) (P := ((mxT 381).1 = 11 ∧ mxG h1) ∧ (((mxT 382).1 = 50 ∧ mxG h1) ∧ vp_in 7 (mxT 382).2) ∧ True) 4 rfl rfl ⟨⟨(congrArg Prod.fst sT_381), G3⟩, (cA sT_382 G3 (vpl rfl)), trivial⟩ ?_
                        exact wp_end (o := .inl (some (.int (mx_i h1 382 7)))) (h' := h1) (P := True) rfl rfl trivial H
                    · have c13 := Decidable.of_not_not c13
                      have H := H.1 c13
                      refine wp_steps (i' := 77) (ls' := [some (.ref 381), some (.int i1)]) (st' := [.ref 381]) (h' := h1) (P := True) 1 rfl rfl trivial ?_
                      obtain ⟨o17, H⟩ := H
                      refine wp_call (b := false) (y' := 292) (as := [.ref 381]) (rest := []) (P := ((mxT 381).1 = mxRc 292 ∧ mxG h1)) rfl (by with_unfolding_all rfl) ⟨(congrArg Prod.fst sT_381), G3⟩ (Nat.le_of_ble_eq_true rfl) (sp_292 G3 o17 ?_)
                      show mx_wp (d + 2) 304 78 [some (.ref 381), some (.int i1)] [.int (V_292 (mx_i h1 382))] h1 Q
                      exact wp_end (o := .inl (some (.int (V_292 (mx_i h1 382))))) (h' := h1) (P := True) rfl rfl trivial H
                  · have c12 := Decidable.of_not_not c12
                    have H := H.1 c12
                    refine wp_steps (i' := 71) (ls' := [some (.ref 381), some (.int i1)]) (st' := [.ref 381]) (h' := h1) (P := True) 1 rfl rfl trivial ?_
                    obtain ⟨o18, H⟩ := H
                    refine wp_call (b := false) (y' := 289) (as := [.ref 381]) (rest := []) (P := ((mxT 381).1 = mxRc 289 ∧ mxG h1)) rfl (by with_unfolding_all rfl) ⟨(congrArg Prod.fst sT_381), G3⟩ (Nat.le_of_ble_eq_true rfl) (sp_289 G3 o18 ?_)
                    show mx_wp (d + 2) 304 72 [some (.ref 381), some (.int i1)] [.int (V_289 (mx_i h1 382))] h1 Q
                    exact wp_end (o := .inl (some (.int (V_289 (mx_i h1 382))))) (h' := h1) (P := True) rfl rfl trivial H
                · skip
                  have H := H.2 c11
                  refine wp_steps (i' := 65) (ls' := [some (.ref 381), some (.int i1)]) (st' := [.int (i1 - 7), .ref 381]) (h' := h1) (P := True) 4 rfl rfl trivial ?_
                  obtain ⟨o19, H⟩ := H
                  refine wp_call (b := false) (y' := 303) (as := [.ref 381, .int (i1 - 7)]) (rest := []) (P := ((mxT 381).1 = mxRc 303 ∧ mxG h1)) rfl (by with_unfolding_all rfl) ⟨(congrArg Prod.fst sT_381), G3⟩ (Nat.le_of_ble_eq_true rfl) (sp_303 G3 o19 ?_)
                  show mx_wp (d + 2) 304 66 [some (.ref 381), some (.int i1)] [.int (V_303 (mx_i h1 382) (i1 - 7))] h1 Q
                  exact wp_end (o := .inl (some (.int (V_303 (mx_i h1 382) (i1 - 7))))) (h' := h1) (P := True) rfl rfl trivial H
              · have c10 := Decidable.of_not_not c10
                have H := H.1 c10
                refine wp_steps (i' := 54) (ls' := [some (.ref 381), some (.int i1)]) (st' := [.ref 381]) (h' := h1) (P := True) 1 rfl rfl trivial ?_
                obtain ⟨o20, H⟩ := H
                refine wp_call (b := false) (y' := 293) (as := [.ref 381]) (rest := []) (P := ((mxT 381).1 = mxRc 293 ∧ mxG h1)) rfl (by with_unfolding_all rfl) ⟨(congrArg Prod.fst sT_381), G3⟩ (Nat.le_of_ble_eq_true rfl) (sp_293 G3 o20 ?_)
                show mx_wp (d + 2) 304 55 [some (.ref 381), some (.int i1)] [.int (V_293 (mx_i h1 382))] h1 Q
                exact wp_end (o := .inl (some (.int (V_293 (mx_i h1 382))))) (h' := h1) (P := True) rfl rfl trivial H
            · have c9 := Decidable.of_not_not c9
              have H := H.1 c9
              refine wp_steps (i' := 49) (ls' := [some (.ref 381), some (.int i1)]) (st' := [.int (mx_i h1 382 6)]) (h' := h1) (P := ((mxT 381).1 = 11 ∧ mxG h1) ∧ (((mxT 382).1 = 50 ∧ mxG h1) ∧ vp_in 6 (mxT 382).2) ∧ True) 4 rfl rfl ⟨⟨(congrArg Prod.fst sT_381), G3⟩, (cA sT_382 G3 (vpl rfl)), trivial⟩ ?_
              exact wp_end (o := .inl (some (.int (mx_i h1 382 6)))) (h' := h1) (P := True) rfl rfl trivial H
          · have c8 := Decidable.of_not_not c8
            have H := H.1 c8
            refine wp_steps (i' := 41) (ls' := [some (.ref 381), some (.int i1)]) (st' := [.int (mx_i h1 382 5)]) (h' := h1) (P := ((mxT 381).1 = 11 ∧ mxG h1) ∧ (((mxT 382).1 = 50 ∧ mxG h1) ∧ vp_in 5 (mxT 382).2) ∧ True) 4 rfl rfl ⟨⟨(congrArg Prod.fst sT_381), G3⟩, (cA sT_382 G3 (vpl rfl)), trivial⟩ ?_
            exact wp_end (o := .inl (some (.int (mx_i h1 382 5)))) (h' := h1) (P := True) rfl rfl trivial H
        · have c7 := Decidable.of_not_not c7
          have H := H.1 c7
          refine wp_steps (i' := 33) (ls' := [some (.ref 381), some (.int i1)]) (st' := [.int (mx_i h1 382 1)]) (h' := h1) (P := ((mxT 381).1 = 11 ∧ mxG h1) ∧ (((mxT 382).1 = 50 ∧ mxG h1) ∧ vp_in 1 (mxT 382).2) ∧ True) 4 rfl rfl ⟨⟨(congrArg Prod.fst sT_381), G3⟩, (cA sT_382 G3 (vpl rfl)), trivial⟩ ?_
          exact wp_end (o := .inl (some (.int (mx_i h1 382 1)))) (h' := h1) (P := True) rfl rfl trivial H
      · have c6 := Decidable.of_not_not c6
        have H := H.1 c6
        refine wp_steps (i' := 25) (ls' := [some (.ref 381), some (.int i1)]) (st' := [.int (mx_i h1 382 0)]) (h' := h1) (P := ((mxT 381).1 = 11 ∧ mxG h1) ∧ (((mxT 382).1 = 50 ∧ mxG h1) ∧ vp_in 0 (mxT 382).2) ∧ True) 4 rfl rfl ⟨⟨(congrArg Prod.fst sT_381), G3⟩, (cA sT_382 G3 (vpl rfl)), trivial⟩ ?_
        exact wp_end (o := .inl (some (.int (mx_i h1 382 0)))) (h' := h1) (P := True) rfl rfl trivial H
    · have c5 := Decidable.of_not_not c5
      have H := H.1 c5
      refine wp_steps (i' := 17) (ls' := [some (.ref 381), some (.int i1)]) (st' := [.int (mx_i h1 382 4)]) (h' := h1) (P := ((mxT 381).1 = 11 ∧ mxG h1) ∧ (((mxT 382).1 = 50 ∧ mxG h1) ∧ vp_in 4 (mxT 382).2) ∧ True) 4 rfl rfl ⟨⟨(congrArg Prod.fst sT_381), G3⟩, (cA sT_382 G3 (vpl rfl)), trivial⟩ ?_
      exact wp_end (o := .inl (some (.int (mx_i h1 382 4)))) (h' := h1) (P := True) rfl rfl trivial H
  · have c4 := Decidable.of_not_not c4
    have H := H.1 c4
    refine wp_steps (i' := 9) (ls' := [some (.ref 381), some (.int i1)]) (st' := [.int (mx_i h1 382 3)]) (h' := h1) (P := ((mxT 381).1 = 11 ∧ mxG h1) ∧ (((mxT 382).1 = 50 ∧ mxG h1) ∧ vp_in 3 (mxT 382).2) ∧ True) 4 rfl rfl ⟨⟨(congrArg Prod.fst sT_381), G3⟩, (cA sT_382 G3 (vpl rfl)), trivial⟩ ?_
    exact wp_end (o := .inl (some (.int (mx_i h1 382 3)))) (h' := h1) (P := True) rfl rfl trivial H
def V_304 (h : mxH) (i1 : Int32) : Int32 := (if i1 = 0 then (mx_i (mx_wi h 381 0 0) 382 3) else (if i1 = 1 then (mx_i (mx_wi h 381 0 0) 382 4) else (if i1 = 2 then (mx_i (mx_wi h 381 0 0) 382 0) else (if i1 = 3 then (mx_i (mx_wi h 381 0 0) 382 1) else (if i1 = 4 then (mx_i (mx_wi h 381 0 0) 382 5) else (if i1 = 5 then (mx_i (mx_wi h 381 0 0) 382 6) else (if i1 = 6 then (V_293 (mx_i (mx_wi h 381 0 0) 382)) else (if (V_191 (mx_i (mx_wi h 381 0 0) 382) i1 (7 : Int32) (9 : Int32)) = 0 then (if i1 = 10 then (V_289 (mx_i (mx_wi h 381 0 0) 382)) else (if i1 = 11 then (V_292 (mx_i (mx_wi h 381 0 0) 382)) else (if i1 = 12 then (mx_i (mx_wi h 381 0 0) 382 7) else ((if i1 = 13 then (mx_i (mx_wi h 381 0 0) 381 6) else (-1)) : Int32)))) else (V_303 (mx_i (mx_wi h 381 0 0) 382) (i1 - 7))))))))))
def W_304 (h : mxH) (i1 : Int32) : mxH := (mx_wi h 381 0 0)
theorem KW_304 {h : mxH} {i1 : Int32} : mxK h (W_304 h i1) := by
  unfold W_304
  repeat' (first | with_reducible exact mxK_rfl | with_reducible exact mxK_wi | with_reducible exact mxK_wrow | with_reducible refine mxK_ite ?_ ?_ | with_reducible refine mxK_tr ?_ mxK_wi | with_reducible refine mxK_tr ?_ mxK_wrow)
theorem sp_304 {d : Nat} {h : mxH} {Q : mxO → mxH → Prop} {i1 : Int32} (G : mxG h)  (x0 : ((i1 = 0 → True) ∧ (¬ i1 = 0 → ((i1 = 1 → True) ∧ (¬ i1 = 1 → ((i1 = 2 → True) ∧ (¬ i1 = 2 → ((i1 = 3 → True) ∧ (¬ i1 = 3 → ((i1 = 4 → True) ∧ (¬ i1 = 4 → ((i1 = 5 → True) ∧ (¬ i1 = 5 → ((i1 = 6 → (cB (mx_i (mx_wi h 381 0 0) 382 3) 6 ∧ True)) ∧ (¬ i1 = 6 → (((V_191 (mx_i (mx_wi h 381 0 0) 382) i1 (7 : Int32) (9 : Int32)) = 0 → ((i1 = 10 → (cB (mx_i (mx_wi h 381 0 0) 382 4) 10 ∧ True)) ∧ (¬ i1 = 10 → ((i1 = 11 → (cB (mx_i (mx_wi h 381 0 0) 382 3) 6 ∧ True)) ∧ (¬ i1 = 11 → True))))) ∧ (¬ (V_191 (mx_i (mx_wi h 381 0 0) 382) i1 (7 : Int32) (9 : Int32)) = 0 → (cB (mx_i (mx_wi h 381 0 0) 382 4) 10 ∧ True)))))))))))))))))) (k : Q (.inl (some (.int (V_304 h i1)))) (W_304 h i1)) : mx_wp (d + 2) 304 0 (mx_fr 304 [.ref 381, .int i1]) [] h Q := by
  unfold V_304 W_304 at k
  have hob : ((i1 = 0 → True) ∧ (¬ i1 = 0 → ((i1 = 1 → True) ∧ (¬ i1 = 1 → ((i1 = 2 → True) ∧ (¬ i1 = 2 → ((i1 = 3 → True) ∧ (¬ i1 = 3 → ((i1 = 4 → True) ∧ (¬ i1 = 4 → ((i1 = 5 → True) ∧ (¬ i1 = 5 → ((i1 = 6 → (cB (mx_i (mx_wi h 381 0 0) 382 3) 6 ∧ True)) ∧ (¬ i1 = 6 → (((V_191 (mx_i (mx_wi h 381 0 0) 382) i1 (7 : Int32) (9 : Int32)) = 0 → ((i1 = 10 → (cB (mx_i (mx_wi h 381 0 0) 382 4) 10 ∧ True)) ∧ (¬ i1 = 10 → ((i1 = 11 → (cB (mx_i (mx_wi h 381 0 0) 382 3) 6 ∧ True)) ∧ (¬ i1 = 11 → True))))) ∧ (¬ (V_191 (mx_i (mx_wi h 381 0 0) 382) i1 (7 : Int32) (9 : Int32)) = 0 → (cB (mx_i (mx_wi h 381 0 0) 382 4) 10 ∧ True))))))))))))))))) := x0
  refine tr_304_0 G  ?_
  intro h1 eh1
  subst eh1
  refine ⟨fun c9 => ?_, fun c9 => ?_⟩
  · try simp only [if_pos c9] at k
    have hob := hob.1 c9
    exact k
  · try simp only [if_neg c9] at k
    have hob := hob.2 c9
    refine ⟨fun c9 => ?_, fun c9 => ?_⟩
    · try simp only [if_pos c9] at k
      have hob := hob.1 c9
      exact k
    · try simp only [if_neg c9] at k
      have hob := hob.2 c9
      refine ⟨fun c9 => ?_, fun c9 => ?_⟩
      · try simp only [if_pos c9] at k
        have hob := hob.1 c9
        exact k
      · try simp only [if_neg c9] at k
        have hob := hob.2 c9
        refine ⟨fun c9 => ?_, fun c9 => ?_⟩
        · try simp only [if_pos c9] at k
          have hob := hob.1 c9
          exact k
        · try simp only [if_neg c9] at k
          have hob := hob.2 c9
          refine ⟨fun c9 => ?_, fun c9 => ?_⟩
          · try simp only [if_pos c9] at k
            have hob := hob.1 c9
            exact k
          · try simp only [if_neg c9] at k
            have hob := hob.2 c9
            refine ⟨fun c9 => ?_, fun c9 => ?_⟩
            · try simp only [if_pos c9] at k
              have hob := hob.1 c9
              exact k
            · try simp only [if_neg c9] at k
              have hob := hob.2 c9
              refine ⟨fun c9 => ?_, fun c9 => ?_⟩
              · try simp only [if_pos c9] at k
                have hob := hob.1 c9
                obtain ⟨q0, hob⟩ := hob
                refine ⟨q0, ?_⟩
                exact k
              · try simp only [if_neg c9] at k
                have hob := hob.2 c9
                refine ⟨fun c9 => ?_, fun c9 => ?_⟩
                · try simp only [if_pos c9] at k
                  have hob := hob.1 c9
                  refine ⟨fun c9 => ?_, fun c9 => ?_⟩
                  · try simp only [if_pos c9] at k
                    have hob := hob.1 c9
                    obtain ⟨q0, hob⟩ := hob
                    refine ⟨q0, ?_⟩
                    exact k
                  · try simp only [if_neg c9] at k
                    have hob := hob.2 c9
                    refine ⟨fun c9 => ?_, fun c9 => ?_⟩
                    · try simp only [if_pos c9] at k
                      have hob := hob.1 c9
                      obtain ⟨q0, hob⟩ := hob
                      refine ⟨q0, ?_⟩
                      exact k
                    · try simp only [if_neg c9] at k
                      have hob := hob.2 c9
                      refine ⟨fun c9 => ?_, fun c9 => ?_⟩
                      · try simp only [if_pos c9] at k
                        exact k
                      · try simp only [if_neg c9] at k
                        intro v15 ev15
                        subst ev15
                        exact k
                · try simp only [if_neg c9] at k
                  have hob := hob.2 c9
                  obtain ⟨q0, hob⟩ := hob
                  refine ⟨q0, ?_⟩
                  exact k
