/-! 77: StoneBacks$Stones.load(I)I -/
def H_77_4 (d : Nat) (h : mxH) (a : Nat) (i1 : Int32) (i2 : Int32) (i3 : Int32) (Q : mxO → mxH → Prop) : Prop := mx_wp d 77 4 [some (.ref (a + 7)), some (.int i1), some (.int i2), some (.int i3)] [] h Q
theorem tr_77_0 {d : Nat} {h : mxH} {Q : mxO → mxH → Prop} {a : Nat} {i1 : Int32} (G : mxG h) (hVa : (mxT a).1 = 9) (H : H_77_4 (d + 1) h a i1 0 0 Q) : mx_wp (d + 1) 77 0 (mx_fr 77 [.ref (a + 7), .int i1]) [] h Q := by
  show mx_wp (d + 1) 77 0 [some (.ref (a + 7)), some (.int i1), none, none] [] h Q
  refine wp_steps (i' := 4) (ls' := [some (.ref (a + 7)), some (.int i1), some (.int 0), some (.int 0)]) (st' := []) (h' := h) (P := True) 4 rfl rfl trivial ?_
  exact H 
theorem tr_77_4 {d : Nat} {h : mxH} {Q : mxO → mxH → Prop} {a : Nat} {i1 : Int32} {i2 : Int32} {i3 : Int32} (G : mxG h) (hVa : (mxT a).1 = 9) (H : ((i3 < (mx_i h (a + 7) 0) → (vp_in i3 10 ∧ (∀ (v3 : Int32), v3 = (if (mx_i h (a + 11) i3.toNatClampNeg) = 0 then (if (mx_i h (a + 12) i3.toNatClampNeg) = i1 then (i2 + (mx_i h (a + 10) i3.toNatClampNeg)) else i2) else i2) → H_77_4 (d + 1) h a i1 v3 (i3 + 1) Q))) ∧ (¬ i3 < (mx_i h (a + 7) 0) → Q (.inl (some (.int i2))) h))) : H_77_4 (d + 1) h a i1 i2 i3 Q := by
  show mx_wp (d + 1) 77 4 [some (.ref (a + 7)), some (.int i1), some (.int i2), some (.int i3)] [] h Q
  refine wp_steps (i' := 7) (ls' := [some (.ref (a + 7)), some (.int i1), some (.int i2), some (.int i3)]) (st' := [.int (mx_i h (a + 7) 0), .int i3]) (h' := h) (P := ((mxT (a + 7)).1 = 7 ∧ mxG h) ∧ True) 3 rfl rfl ⟨⟨(congrArg Prod.fst (sV_7 hVa)), G⟩, trivial⟩ ?_
  refine wp_br (P := True) (c := (mx_i h (a + 7) 0) ≤ i3) (t := 28) (st' := []) rfl rfl trivial (fun c1 => ?_) (fun c1 => ?_)
  · have c1 := Int32.not_lt.mpr c1
    have H := H.2 c1
    refine wp_steps (i' := 29) (ls' := [some (.ref (a + 7)), some (.int i1), some (.int i2), some (.int i3)]) (st' := [.int i2]) (h' := h) (P := True) 1 rfl rfl trivial ?_
    exact wp_end (o := .inl (some (.int i2))) (h' := h) (P := True) rfl rfl trivial H
  · have c1 := Int32.not_le.mp c1
    have H := H.1 c1
    obtain ⟨o2, H⟩ := H
    refine wp_steps (i' := 12) (ls' := [some (.ref (a + 7)), some (.int i1), some (.int i2), some (.int i3)]) (st' := [.int (mx_i h (a + 11) i3.toNatClampNeg)]) (h' := h) (P := ((mxT (a + 7)).1 = 7 ∧ mxG h) ∧ (((mxT (a + 11)).1 = 50 ∧ mxG h) ∧ vp_in i3 (mxT (a + 11)).2) ∧ True) 4 rfl rfl ⟨⟨(congrArg Prod.fst (sV_7 hVa)), G⟩, (cA (sV_11 hVa) G o2), trivial⟩ ?_
    have J : ∀ (v3 : Int32) (ev3 : v3 = (if (mx_i h (a + 11) i3.toNatClampNeg) = 0 then (if (mx_i h (a + 12) i3.toNatClampNeg) = i1 then (i2 + (mx_i h (a + 10) i3.toNatClampNeg)) else i2) else i2)), mx_wp (d + 1) 77 26 [some (.ref (a + 7)), some (.int i1), some (.int v3), some (.int i3)] [] h Q := by
      intro v3 ev3
      have H := H v3 ev3
      refine wp_steps (i' := 27) (ls' := [some (.ref (a + 7)), some (.int i1), some (.int v3), some (.int (i3 + 1))]) (st' := []) (h' := h) (P := True) 1 rfl rfl trivial ?_
      refine wp_J (j := 4) (st' := []) rfl rfl ?_
      exact H 
    refine wp_br (P := True) (c := ¬ (mx_i h (a + 11) i3.toNatClampNeg) = 0) (t := 26) (st' := []) rfl rfl trivial (fun c4 => ?_) (fun c4 => ?_)
    · skip
      exact J _ (by rw [if_neg c4])
    · have c4 := Decidable.of_not_not c4
      refine wp_steps (i' := 18) (ls' := [some (.ref (a + 7)), some (.int i1), some (.int i2), some (.int i3)]) (st' := [.int i1, .int (mx_i h (a + 12) i3.toNatClampNeg)]) (h' := h) (P := ((mxT (a + 7)).1 = 7 ∧ mxG h) ∧ (((mxT (a + 12)).1 = 50 ∧ mxG h) ∧ vp_in i3 (mxT (a + 12)).2) ∧ True) 5 rfl rfl ⟨⟨(congrArg Prod.fst (sV_7 hVa)), G⟩, (cA (sV_12 hVa) G o2), trivial⟩ ?_
      refine wp_br (P := True) (c := ¬ (mx_i h (a + 12) i3.toNatClampNeg) = i1) (t := 26) (st' := []) rfl rfl trivial (fun c5 => ?_) (fun c5 => ?_)
      · skip
        exact J _ (by rw [if_pos c4, if_neg c5])
      · have c5 := Decidable.of_not_not c5
        refine wp_steps (i' := 26) (ls' := [some (.ref (a + 7)), some (.int i1), some (.int (i2 + (mx_i h (a + 10) i3.toNatClampNeg))), some (.int i3)]) (st' := []) (h' := h) (P := ((mxT (a + 7)).1 = 7 ∧ mxG h) ∧ (((mxT (a + 10)).1 = 50 ∧ mxG h) ∧ vp_in i3 (mxT (a + 10)).2) ∧ True) 7 rfl rfl ⟨⟨(congrArg Prod.fst (sV_7 hVa)), G⟩, (cA (sV_10 hVa) G o2), trivial⟩ ?_
        exact J _ (by rw [if_pos c4, if_pos c5])
/-! 191: StoneBacksModel.isIn(III)Z -/
theorem tr_191_0 {d : Nat} {h : mxH} {Q : mxO → mxH → Prop} {i0 : Int32} {i1 : Int32} {i2 : Int32} (G : mxG h)  (H : (∀ (v1 : Int32), v1 = (if i0 < i1 then 0 else (if i2 < i0 then 0 else 1)) → Q (.inl (some (.int v1))) h)) : mx_wp (d + 1) 191 0 (mx_fr 191 [.int i0, .int i1, .int i2]) [] h Q := by
  show mx_wp (d + 1) 191 0 [some (.int i0), some (.int i1), some (.int i2)] [] h Q
  refine wp_steps (i' := 2) (ls' := [some (.int i0), some (.int i1), some (.int i2)]) (st' := [.int i1, .int i0]) (h' := h) (P := True) 2 rfl rfl trivial ?_
  have J : ∀ (v1 : Int32) (ev1 : v1 = (if i0 < i1 then 0 else (if i2 < i0 then 0 else 1))), mx_wp (d + 1) 191 9 [some (.int i0), some (.int i1), some (.int i2)] [.int v1] h Q := by
    intro v1 ev1
    have H := H v1 ev1
    exact wp_end (o := .inl (some (.int v1))) (h' := h) (P := (v1 = 0 ∨ v1 = 1)) rfl rfl (b01 ev1 (by repeat' (first | exact Or.inl rfl | exact Or.inr rfl | split))) H
  refine wp_br (P := True) (c := i0 < i1) (t := 8) (st' := []) rfl rfl trivial (fun c2 => ?_) (fun c2 => ?_)
  · skip
    refine wp_steps (i' := 9) (ls' := [some (.int i0), some (.int i1), some (.int i2)]) (st' := [.int 0]) (h' := h) (P := True) 1 rfl rfl trivial ?_
    exact J _ (by rw [if_pos c2])
  · skip
    refine wp_steps (i' := 5) (ls' := [some (.int i0), some (.int i1), some (.int i2)]) (st' := [.int i2, .int i0]) (h' := h) (P := True) 2 rfl rfl trivial ?_
    refine wp_br (P := True) (c := i2 < i0) (t := 8) (st' := []) rfl rfl trivial (fun c3 => ?_) (fun c3 => ?_)
    · skip
      refine wp_steps (i' := 9) (ls' := [some (.int i0), some (.int i1), some (.int i2)]) (st' := [.int 0]) (h' := h) (P := True) 1 rfl rfl trivial ?_
      exact J _ (by rw [if_neg c2, if_pos c3])
    · skip
      refine wp_steps (i' := 7) (ls' := [some (.int i0), some (.int i1), some (.int i2)]) (st' := [.int 1]) (h' := h) (P := True) 1 rfl rfl trivial ?_
      refine wp_J (j := 9) (st' := [.int 1]) rfl rfl ?_
      exact J _ (by rw [if_neg c2, if_neg c3])
/-! 152: StoneBacks.seed(I)I -/
theorem tr_152_0 {d : Nat} {h : mxH} {Q : mxO → mxH → Prop} {i1 : Int32} {vn vd vr vq : Nat} (G : mxG h) (S : mxS h vn vd vr vq) (H : (∀ h1, h1 = mx_wi h vn 7 i1 → Q (.inl (some (.int (mx_i h vn 7)))) h1)) : mx_wp (d + 1) 152 0 (mx_fr 152 [.ref 100, .int i1]) [] h Q := by
  show mx_wp (d + 1) 152 0 [some (.ref 100), some (.int i1), none] [] h Q
  refine wp_steps (i' := 2) (ls' := [some (.ref 100), some (.int i1), none]) (st' := [.ref (mx_r h 100 4)]) (h' := h) (P := ((mxT 100).1 = 10 ∧ mxG h) ∧ True) 2 rfl rfl ⟨⟨(congrArg Prod.fst sT_100), G⟩, trivial⟩ ?_
  rw [mxS_4 S]
  refine wp_steps (i' := 6) (ls' := [some (.ref 100), some (.int i1), some (.int (mx_i h vn 7))]) (st' := [.ref (mx_r h 100 4)]) (h' := h) (P := ((mxT vn).1 = 9 ∧ mxG h) ∧ ((mxT 100).1 = 10 ∧ mxG h) ∧ True) 4 rfl rfl ⟨⟨(congrArg Prod.fst (sV_0 (mxS_vn S))), G⟩, ⟨(congrArg Prod.fst sT_100), G⟩, trivial⟩ ?_
  rw [mxS_4 S]
  refine wp_steps (i' := 8) (ls' := [some (.ref 100), some (.int i1), some (.int (mx_i h vn 7))]) (st' := []) (h' := mx_wi h vn 7 i1) (P := ((mxT vn).1 = 9 ∧ mxG h) ∧ True) 2 rfl rfl ⟨⟨(congrArg Prod.fst (sV_0 (mxS_vn S))), G⟩, trivial⟩ ?_
  obtain ⟨h1, e2⟩ : ∃ z9, z9 = mx_wi h vn 7 i1 := ⟨_, rfl⟩
  rw [← e2]
  have H := H h1 e2
  have G3 : mxG h1 := e2 ▸ mxG_wi G
  have S4 := e2 ▸ mxS_wi S
  refine wp_steps (i' := 9) (ls' := [some (.ref 100), some (.int i1), some (.int (mx_i h vn 7))]) (st' := [.int (mx_i h vn 7)]) (h' := h1) (P := True) 1 rfl rfl trivial ?_
  exact wp_end (o := .inl (some (.int (mx_i h vn 7)))) (h' := h1) (P := True) rfl rfl trivial H
