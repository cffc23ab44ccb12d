/-! 100: StoneBacks$Tape.takeNumber(II)I -/
set_option maxRecDepth 8000 in
theorem tr_100_0 {d : Nat} {h : mxH} {Q : mxO → mxH → Prop} {i1 : Int32} {i2 : Int32} (G : mxG h)  (H : (tkOk h ∧ (((V_99 h) = (-1) → Q (.inl (some (.int (-1)))) h) ∧ (¬ (V_99 h) = (-1) → (((V_99 h) < i1 → Q (.inl (some (.int (-1)))) h) ∧ (¬ (V_99 h) < i1 → ((i2 < (V_99 h) → Q (.inl (some (.int (-1)))) h) ∧ (¬ i2 < (V_99 h) → (∀ h5, h5 = mx_wi h 101 3 ((mx_i h 101 3) + 1) → Q (.inl (some (.int (V_99 h)))) h5))))))))) : mx_wp (d + 1) 100 0 (mx_fr 100 [.ref 101, .int i1, .int i2]) [] h Q := by
  show mx_wp (d + 1) 100 0 [some (.ref 101), some (.int i1), some (.int i2), none] [] h Q
  refine wp_steps (i' := 1) (ls' := [some (.ref 101), some (.int i1), some (.int i2), none]) (st' := [.ref 101]) (h' := h) (P := True) 1 rfl rfl trivial ?_
  obtain ⟨o1, H⟩ := H
  refine wp_call (b := false) (y' := 99) (as := [.ref 101]) (rest := []) (P := ((mxT 101).1 = mxRc 99 ∧ mxG h)) rfl (by with_unfolding_all rfl) ⟨(congrArg Prod.fst sT_101), G⟩ (Nat.le_of_ble_eq_true rfl) (sp_99 G o1 ?_)
  show mx_wp (d + 1) 100 2 [some (.ref 101), some (.int i1), some (.int i2), none] [.int (V_99 h)] h Q
  refine wp_steps (i' := 5) (ls' := [some (.ref 101), some (.int i1), some (.int i2), some (.int (V_99 h))]) (st' := [.int (-1), .int (V_99 h)]) (h' := h) (P := True) 3 rfl rfl trivial ?_
  refine wp_br (P := True) (c := (V_99 h) = (-1)) (t := 12) (st' := []) rfl rfl trivial (fun c2 => ?_) (fun c2 => ?_)
  · skip
    have H := H.1 c2
    refine wp_steps (i' := 13) (ls' := [some (.ref 101), some (.int i1), some (.int i2), some (.int (V_99 h))]) (st' := [.int (-1)]) (h' := h) (P := True) 1 rfl rfl trivial ?_
    exact wp_end (o := .inl (some (.int (-1)))) (h' := h) (P := True) rfl rfl trivial H
  · skip
    have H := H.2 c2
    refine wp_steps (i' := 8) (ls' := [some (.ref 101), some (.int i1), some (.int i2), some (.int (V_99 h))]) (st' := [.int i1, .int (V_99 h)]) (h' := h) (P := True) 2 rfl rfl trivial ?_
    refine wp_br (P := True) (c := (V_99 h) < i1) (t := 12) (st' := []) rfl rfl trivial (fun c3 => ?_) (fun c3 => ?_)
    · skip
      have H := H.1 c3
      refine wp_steps (i' := 13) (ls' := [some (.ref 101), some (.int i1), some (.int i2), some (.int (V_99 h))]) (st' := [.int (-1)]) (h' := h) (P := True) 1 rfl rfl trivial ?_
      exact wp_end (o := .inl (some (.int (-1)))) (h' := h) (P := True) rfl rfl trivial H
    · skip
      have H := H.2 c3
      refine wp_steps (i' := 11) (ls' := [some (.ref 101), some (.int i1), some (.int i2), some (.int (V_99 h))]) (st' := [.int i2, .int (V_99 h)]) (h' := h) (P := True) 2 rfl rfl trivial ?_
      refine wp_br (P := True) (c := (V_99 h) ≤ i2) (t := 14) (st' := []) rfl rfl trivial (fun c4 => ?_) (fun c4 => ?_)
      · have c4 := Int32.not_lt.mpr c4
        have H := H.2 c4
        refine wp_steps (i' := 20) (ls' := [some (.ref 101), some (.int i1), some (.int i2), some (.int (V_99 h))]) (st' := []) (h' := mx_wi h 101 3 ((mx_i h 101 3) + 1)) (P := ((mxT 101).1 = 8 ∧ mxG h) ∧ ((mxT 101).1 = 8 ∧ mxG h) ∧ True) 6 rfl rfl ⟨⟨(congrArg Prod.fst sT_101), G⟩, ⟨(congrArg Prod.fst sT_101), G⟩, trivial⟩ ?_
        obtain ⟨h5, e6⟩ : ∃ z9, z9 = mx_wi h 101 3 ((mx_i h 101 3) + 1) := ⟨_, rfl⟩
        rw [← e6]
        have H := H h5 e6
        have G7 : mxG h5 := e6 ▸ mxG_wi G
        refine wp_steps (i' := 21) (ls' := [some (.ref 101), some (.int i1), some (.int i2), some (.int (V_99 h))]) (st' := [.int (V_99 h)]) (h' := h5) (P := True) 1 rfl rfl trivial ?_
        exact wp_end (o := .inl (some (.int (V_99 h)))) (h' := h5) (P := True) rfl rfl trivial H
      · have c4 := Int32.not_le.mp c4
        have H := H.1 c4
        refine wp_steps (i' := 13) (ls' := [some (.ref 101), some (.int i1), some (.int i2), some (.int (V_99 h))]) (st' := [.int (-1)]) (h' := h) (P := True) 1 rfl rfl trivial ?_
        exact wp_end (o := .inl (some (.int (-1)))) (h' := h) (P := True) rfl rfl trivial H
def V_100 (h : mxH) (i1 : Int32) (i2 : Int32) : Int32 := (if (V_99 h) = (-1) then (-1) else (if (V_99 h) < i1 then (-1) else (if i2 < (V_99 h) then (-1) else (V_99 h))))
def W_100 (h : mxH) (i1 : Int32) (i2 : Int32) : mxH := (if (V_99 h) = (-1) then h else (if (V_99 h) < i1 then h else (if i2 < (V_99 h) then h else (mx_wi h 101 3 ((mx_i h 101 3) + 1)))))
theorem KW_100 {h : mxH} {i1 : Int32} {i2 : Int32} : mxK h (W_100 h i1 i2) := by
  unfold W_100
  repeat' (first | with_reducible exact mxK_rfl | with_reducible exact mxK_wi | with_reducible exact mxK_wrow | with_reducible refine mxK_ite ?_ ?_ | with_reducible refine mxK_tr ?_ mxK_wi | with_reducible refine mxK_tr ?_ mxK_wrow)
theorem sp_100 {d : Nat} {h : mxH} {Q : mxO → mxH → Prop} {i1 : Int32} {i2 : Int32} (G : mxG h)  (x0 : tkOk h) (k : Q (.inl (some (.int (V_100 h i1 i2)))) (W_100 h i1 i2)) : mx_wp (d + 1) 100 0 (mx_fr 100 [.ref 101, .int i1, .int i2]) [] h Q := by
  unfold V_100 W_100 at k
  have hob : (tkOk h ∧ True) := ⟨x0, trivial⟩
  refine tr_100_0 G  ?_
  obtain ⟨q0, hob⟩ := hob
  refine ⟨q0, ?_⟩
  refine ⟨fun c9 => ?_, fun c9 => ?_⟩
  · try simp only [if_pos c9] at k
    exact k
  · try simp only [if_neg c9] at k
    refine ⟨fun c9 => ?_, fun c9 => ?_⟩
    · try simp only [if_pos c9] at k
      exact k
    · try simp only [if_neg c9] at k
      refine ⟨fun c9 => ?_, fun c9 => ?_⟩
      · try simp only [if_pos c9] at k
        exact k
      · try simp only [if_neg c9] at k
        intro h5 eh5
        subst eh5
        exact k
/-! 92: StoneBacks$Tape.stands(Ljava/lang/String;I)Z -/
def H_92_2 (d : Nat) (h : mxH) (s1 : Nat) (i2 : Int32) (i3 : Int32) (Q : mxO → mxH → Prop) : Prop := mx_wp d 92 2 [some (.ref 101), some (.ref s1), some (.int i2), some (.int i3)] [] h Q
set_option maxRecDepth 8000 in
theorem tr_92_0 {d : Nat} {h : mxH} {Q : mxO → mxH → Prop} {s1 : Nat} {i2 : Int32} (G : mxG h)  (H : H_92_2 (d + 4) h s1 i2 0 Q) : mx_wp (d + 4) 92 0 (mx_fr 92 [.ref 101, .ref s1, .int i2]) [] h Q := by
  show mx_wp (d + 4) 92 0 [some (.ref 101), some (.ref s1), some (.int i2), none] [] h Q
  refine wp_steps (i' := 2) (ls' := [some (.ref 101), some (.ref s1), some (.int i2), some (.int 0)]) (st' := []) (h' := h) (P := True) 2 rfl rfl trivial ?_
  exact H 
set_option maxRecDepth 8000 in
theorem tr_92_2 {d : Nat} {h : mxH} {Q : mxO → mxH → Prop}  {s1 : Nat} {i2 : Int32} {i3 : Int32} (G : mxG h)  (H : ((30 ≤ s1 ∧ s1 < 82 ∧ s1 % 2 = 0) ∧ (31 ≤ (s1 + 1) ∧ (s1 + 1) < 83 ∧ (s1 + 1) % 2 = 1) ∧ (((1 : Int32) = 0 → True) ∧ (¬ (1 : Int32) = 0 → ((30 ≤ s1 ∧ s1 < 82 ∧ s1 % 2 = 0) ∧ True))) ∧ (narrow .byte (.int ((if (1 : Int32) = 0 then 1 else 0) : Int32)) = .int ((if (1 : Int32) = 0 then 1 else 0) : Int32)) ∧ ((i3 < (V_307 h s1) → ((((i2 + i3) < 0 → True) ∧ (¬ (i2 + i3) < 0 → (((i2 + i3) < (mx_i h 101 1) → (vp_in (i2 + i3) 400 ∧ True)) ∧ (¬ (i2 + i3) < (mx_i h 101 1) → True)))) ∧ (vp_in i3 (mxSl (s1 + 1)) ∧ (((V_87 h (i2 + i3)) = (V_308 h s1 i3) → H_92_2 (d + 4) h s1 i2 (i3 + 1) Q) ∧ (¬ (V_87 h (i2 + i3)) = (V_308 h s1 i3) → Q (.inl (some (.int 0))) h))))) ∧ (¬ i3 < (V_307 h s1) → Q (.inl (some (.int 1))) h)))) : H_92_2 (d + 4) h s1 i2 i3 Q := by
  show mx_wp (d + 4) 92 2 [some (.ref 101), some (.ref s1), some (.int i2), some (.int i3)] [] h Q
  refine wp_steps (i' := 4) (ls' := [some (.ref 101), some (.ref s1), some (.int i2), some (.int i3)]) (st' := [.ref s1, .int i3]) (h' := h) (P := True) 2 rfl rfl trivial ?_
  obtain ⟨o1, o2, o3, o4, H⟩ := H
  refine wp_call (b := false) (y' := 307) (as := [.ref s1]) (rest := [.int i3]) (P := (30 ≤ s1 ∧ s1 < 82 ∧ s1 % 2 = 0)) rfl (by with_unfolding_all rfl) o1 (Nat.le_of_ble_eq_true rfl) (sp_307 G o1 o2 o3 o4 ?_)
  show mx_wp (d + 4) 92 5 [some (.ref 101), some (.ref s1), some (.int i2), some (.int i3)] [.int (V_307 h s1), .int i3] h Q
  refine wp_br (P := True) (c := (V_307 h s1) ≤ i3) (t := 19) (st' := []) rfl rfl trivial (fun c5 => ?_) (fun c5 => ?_)
  · have c5 := Int32.not_lt.mpr c5
    have H := H.2 c5
    refine wp_steps (i' := 20) (ls' := [some (.ref 101), some (.ref s1), some (.int i2), some (.int i3)]) (st' := [.int 1]) (h' := h) (P := True) 1 rfl rfl trivial ?_
    exact wp_end (o := .inl (some (.int 1))) (h' := h) (P := ((1 : Int32) = 0 ∨ (1 : Int32) = 1)) rfl rfl (Or.inr rfl) H
  · have c5 := Int32.not_le.mp c5
    have H := H.1 c5
    refine wp_steps (i' := 10) (ls' := [some (.ref 101), some (.ref s1), some (.int i2), some (.int i3)]) (st' := [.int (i2 + i3), .ref 101]) (h' := h) (P := True) 4 rfl rfl trivial ?_
    obtain ⟨o6, H⟩ := H
    refine wp_call (b := false) (y' := 87) (as := [.ref 101, .int (i2 + i3)]) (rest := []) (P := ((mxT 101).1 = mxRc 87 ∧ mxG h)) rfl (by with_unfolding_all rfl) ⟨(congrArg Prod.fst sT_101), G⟩ (Nat.le_of_ble_eq_true rfl) (sp_87 G o6 ?_)
    show mx_wp (d + 4) 92 11 [some (.ref 101), some (.ref s1), some (.int i2), some (.int i3)] [.int (V_87 h (i2 + i3))] h Q
    refine wp_steps (i' := 13) (ls' := [some (.ref 101), some (.ref s1), some (.int i2), some (.int i3)]) (st' := [.int i3, .ref s1, .int (V_87 h (i2 + i3))]) (h' := h) (P := True) 2 rfl rfl trivial ?_
    obtain ⟨o7, H⟩ := H
    refine wp_call (b := false) (y' := 308) (as := [.ref s1, .int i3]) (rest := [.int (V_87 h (i2 + i3))]) (P := (30 ≤ s1 ∧ s1 < 82 ∧ s1 % 2 = 0)) rfl (by with_unfolding_all rfl) o1 (Nat.le_of_ble_eq_true rfl) (sp_308 G o1 o7 ?_)
    show mx_wp (d + 4) 92 14 [some (.ref 101), some (.ref s1), some (.int i2), some (.int i3)] [.int (V_308 h s1 i3), .int (V_87 h (i2 + i3))] h Q
    refine wp_br (P := True) (c := (V_87 h (i2 + i3)) = (V_308 h s1 i3)) (t := 17) (st' := []) rfl rfl trivial (fun c8 => ?_) (fun c8 => ?_)
    · skip
      have H := H.1 c8
      refine wp_steps (i' := 18) (ls' := [some (.ref 101), some (.ref s1), some (.int i2), some (.int (i3 + 1))]) (st' := []) (h' := h) (P := True) 1 rfl rfl trivial ?_
      refine wp_J (j := 2) (st' := []) rfl rfl ?_
      exact H 
    · skip
      have H := H.2 c8
      refine wp_steps (i' := 16) (ls' := [some (.ref 101), some (.ref s1), some (.int i2), some (.int i3)]) (st' := [.int 0]) (h' := h) (P := True) 1 rfl rfl trivial ?_
      exact wp_end (o := .inl (some (.int 0))) (h' := h) (P := ((0 : Int32) = 0 ∨ (0 : Int32) = 1)) rfl rfl (Or.inl rfl) H
/-! 211: StoneBacksModel.isSign(I)Z -/
set_option maxRecDepth 8000 in
theorem tr_211_0 {d : Nat} {h : mxH} {Q : mxO → mxH → Prop} {i1 : Int32} (G : mxG h)  (H : (okT h ∧ (∀ (h3 : mxH), (mxK h h3 ∧ psk h h3) → ((((mx_i h3 381 11) < (mx_i h3 381 10) → ((((mx_i h3 381 9) = (-1) → (vp_in (mx_i h3 381 11) 400 ∧ True)) ∧ (¬ (mx_i h3 381 9) = (-1) → (vp_in ((mx_i h3 381 9) + (mx_i h3 381 11)) 769 ∧ True))) ∧ True)) ∧ (¬ (mx_i h3 381 11) < (mx_i h3 381 10) → True)) ∧ (∀ (v6 : Int32), v6 = ((if (mx_i h3 381 11) < (mx_i h3 381 10) then (if (V_209 h3 (mx_i h3 381 11)) = i1 then 1 else 0) else 0) : Int32) → Q (.inl (some (.int v6))) h3))))) : mx_wp (d + 2) 211 0 (mx_fr 211 [.ref 381, .int i1]) [] h Q := by
  show mx_wp (d + 2) 211 0 [some (.ref 381), some (.int i1)] [] h Q
  refine wp_steps (i' := 1) (ls' := [some (.ref 381), some (.int i1)]) (st' := [.ref 381]) (h' := h) (P := True) 1 rfl rfl trivial ?_
  obtain ⟨o1, H⟩ := H
  refine wp_call (b := false) (y' := 210) (as := [.ref 381]) (rest := []) (P := ((mxT 381).1 = mxRc 210 ∧ mxG h)) rfl (by with_unfolding_all rfl) ⟨(congrArg Prod.fst sT_381), G⟩ (Nat.le_of_ble_eq_true rfl) (sp_210 G o1 ?_)
  intro h3 p4
  show mx_wp (d + 2) 211 2 [some (.ref 381), some (.int i1)] [] h3 Q
  have H := H h3 p4
  have G5 : mxG h3 := mxK_G p4.1 G
  refine wp_steps (i' := 6) (ls' := [some (.ref 381), some (.int i1)]) (st' := [.int (mx_i h3 381 10), .int (mx_i h3 381 11)]) (h' := h3) (P := ((mxT 381).1 = 11 ∧ mxG h3) ∧ ((mxT 381).1 = 11 ∧ mxG h3) ∧ True) 4 rfl rfl ⟨⟨(congrArg Prod.fst sT_381), G5⟩, ⟨(congrArg Prod.fst sT_381), G5⟩, trivial⟩ ?_
  have J : ∀ (v6 : Int32) (ev6 : v6 = ((if (mx_i h3 381 11) < (mx_i h3 381 10) then (if (V_209 h3 (mx_i h3 381 11)) = i1 then 1 else 0) else 0) : Int32)), mx_wp (d + 2) 211 16 [some (.ref 381), some (.int i1)] [.int v6] h3 Q := by
    intro v6 ev6
    have H := H.2 v6 ev6
    exact wp_end (o := .inl (some (.int v6))) (h' := h3) (P := (v6 = 0 ∨ v6 = 1)) rfl rfl (b01 ev6 (by repeat' (first | exact Or.inl rfl | exact Or.inr rfl | split))) H
  have H := H.1
  refine wp_br (P := True) (c := (mx_i h3 381 10) ≤ (mx_i h3 381 11)) (t := 15) (st' := []) rfl rfl trivial (fun c7 => ?_) (fun c7 => ?_)
  · have c7 := Int32.not_lt.mpr c7
    refine wp_steps (i' := 16) (ls' := [some (.ref 381), some (.int i1)]) (st' := [.int 0]) (h' := h3) (P := True) 1 rfl rfl trivial ?_
    exact J _ (by rw [if_neg c7])
  · have c7 := Int32.not_le.mp c7
    have H := H.1 c7
    refine wp_steps (i' := 10) (ls' := [some (.ref 381), some (.int i1)]) (st' := [.int (mx_i h3 381 11), .ref 381]) (h' := h3) (P := ((mxT 381).1 = 11 ∧ mxG h3) ∧ True) 3 rfl rfl ⟨⟨(congrArg Prod.fst sT_381), G5⟩, trivial⟩ ?_
    obtain ⟨o8, H⟩ := H
    refine wp_call (b := false) (y' := 209) (as := [.ref 381, .int (mx_i h3 381 11)]) (rest := []) (P := ((mxT 381).1 = mxRc 209 ∧ mxG h3)) rfl (by with_unfolding_all rfl) ⟨(congrArg Prod.fst sT_381), G5⟩ (Nat.le_of_ble_eq_true rfl) (sp_209 G5 o8 ?_)
    show mx_wp (d + 2) 211 11 [some (.ref 381), some (.int i1)] [.int (V_209 h3 (mx_i h3 381 11))] h3 Q
    refine wp_steps (i' := 12) (ls' := [some (.ref 381), some (.int i1)]) (st' := [.int i1, .int (V_209 h3 (mx_i h3 381 11))]) (h' := h3) (P := True) 1 rfl rfl trivial ?_
    refine wp_br (P := True) (c := ¬ (V_209 h3 (mx_i h3 381 11)) = i1) (t := 15) (st' := []) rfl rfl trivial (fun c9 => ?_) (fun c9 => ?_)
    · skip
      refine wp_steps (i' := 16) (ls' := [some (.ref 381), some (.int i1)]) (st' := [.int 0]) (h' := h3) (P := True) 1 rfl rfl trivial ?_
      exact J _ (by rw [if_pos c7, if_neg c9])
    · have c9 := Decidable.of_not_not c9
      refine wp_steps (i' := 14) (ls' := [some (.ref 381), some (.int i1)]) (st' := [.int 1]) (h' := h3) (P := True) 1 rfl rfl trivial ?_
      refine wp_J (j := 16) (st' := [.int 1]) rfl rfl ?_
      exact J _ (by rw [if_pos c7, if_pos c9])
/-! 212: StoneBacksModel.has(Ljava/lang/String;)Z -/
def H_212_5 (d : Nat) (h : mxH) (s1 : Nat) (i2 : Int32) (Q : mxO → mxH → Prop) : Prop := ∀ (w3 : Option Value), mx_wp d 212 5 [some (.ref 381), some (.ref s1), some (.int i2), w3] [] h Q
def H_212_29 (d : Nat) (h : mxH) (s1 : Nat) (i2 : Int32) (i3 : Int32) (Q : mxO → mxH → Prop) : Prop := mx_wp d 212 29 [some (.ref 381), some (.ref s1), some (.int i2), some (.int i3)] [] h Q
set_option maxRecDepth 8000 in
theorem tr_212_0 {d : Nat} {h : mxH} {Q : mxO → mxH → Prop} {s1 : Nat} (G : mxG h)  (H : (okT h ∧ (∀ (h3 : mxH), (mxK h h3 ∧ psk h h3) → H_212_5 (d + 4) h3 s1 (mx_i h3 381 11) Q))) : mx_wp (d + 4) 212 0 (mx_fr 212 [.ref 381, .ref s1]) [] h Q := by
  show mx_wp (d + 4) 212 0 [some (.ref 381), some (.ref s1), none, none] [] h Q
  refine wp_steps (i' := 1) (ls' := [some (.ref 381), some (.ref s1), none, none]) (st' := [.ref 381]) (h' := h) (P := True) 1 rfl rfl trivial ?_
  obtain ⟨o1, H⟩ := H
  refine wp_call (b := false) (y' := 210) (as := [.ref 381]) (rest := []) (P := ((mxT 381).1 = mxRc 210 ∧ mxG h)) rfl (by with_unfolding_all rfl) ⟨(congrArg Prod.fst sT_381), G⟩ (Nat.le_of_ble_eq_true rfl) (sp_210 G o1 ?_)
  intro h3 p4
  show mx_wp (d + 4) 212 2 [some (.ref 381), some (.ref s1), none, none] [] h3 Q
  have H := H h3 p4
  have G5 : mxG h3 := mxK_G p4.1 G
  refine wp_steps (i' := 5) (ls' := [some (.ref 381), some (.ref s1), some (.int (mx_i h3 381 11)), none]) (st' := []) (h' := h3) (P := ((mxT 381).1 = 11 ∧ mxG h3) ∧ True) 3 rfl rfl ⟨⟨(congrArg Prod.fst sT_381), G5⟩, trivial⟩ ?_
  exact H _
set_option maxRecDepth 8000 in
theorem tr_212_5 {d : Nat} {h : mxH} {Q : mxO → mxH → Prop}  {s1 : Nat} {i2 : Int32} (G : mxG h)  (H : ((i2 < (mx_i h 381 10) → ((((mx_i h 381 9) = (-1) → (vp_in i2 400 ∧ True)) ∧ (¬ (mx_i h 381 9) = (-1) → (vp_in ((mx_i h 381 9) + i2) 769 ∧ True))) ∧ (((V_191 (mx_i h 382) (V_209 h i2) (97 : Int32) (122 : Int32)) = 0 → ((30 ≤ s1 ∧ s1 < 82 ∧ s1 % 2 = 0) ∧ (31 ≤ (s1 + 1) ∧ (s1 + 1) < 83 ∧ (s1 + 1) % 2 = 1) ∧ (((1 : Int32) = 0 → True) ∧ (¬ (1 : Int32) = 0 → ((30 ≤ s1 ∧ s1 < 82 ∧ s1 % 2 = 0) ∧ True))) ∧ (narrow .byte (.int ((if (1 : Int32) = 0 then 1 else 0) : Int32)) = .int ((if (1 : Int32) = 0 then 1 else 0) : Int32)) ∧ (((i2 - (mx_i h 381 11)) = (V_307 h s1) → H_212_29 (d + 4) h s1 i2 0 Q) ∧ (¬ (i2 - (mx_i h 381 11)) = (V_307 h s1) → Q (.inl (some (.int 0))) h)))) ∧ (¬ (V_191 (mx_i h 382) (V_209 h i2) (97 : Int32) (122 : Int32)) = 0 → H_212_5 (d + 4) h s1 (i2 + 1) Q)))) ∧ (¬ i2 < (mx_i h 381 10) → ((30 ≤ s1 ∧ s1 < 82 ∧ s1 % 2 = 0) ∧ (31 ≤ (s1 + 1) ∧ (s1 + 1) < 83 ∧ (s1 + 1) % 2 = 1) ∧ (((1 : Int32) = 0 → True) ∧ (¬ (1 : Int32) = 0 → ((30 ≤ s1 ∧ s1 < 82 ∧ s1 % 2 = 0) ∧ True))) ∧ (narrow .byte (.int ((if (1 : Int32) = 0 then 1 else 0) : Int32)) = .int ((if (1 : Int32) = 0 then 1 else 0) : Int32)) ∧ (((i2 - (mx_i h 381 11)) = (V_307 h s1) → H_212_29 (d + 4) h s1 i2 0 Q) ∧ (¬ (i2 - (mx_i h 381 11)) = (V_307 h s1) → Q (.inl (some (.int 0))) h)))))) : H_212_5 (d + 4) h s1 i2 Q := by
  intro w3
  show mx_wp (d + 4) 212 5 [some (.ref 381), some (.ref s1), some (.int i2), w3] [] h Q
  refine wp_steps (i' := 8) (ls' := [some (.ref 381), some (.ref s1), some (.int i2), w3]) (st' := [.int (mx_i h 381 10), .int i2]) (h' := h) (P := ((mxT 381).1 = 11 ∧ mxG h) ∧ True) 3 rfl rfl ⟨⟨(congrArg Prod.fst sT_381), G⟩, trivial⟩ ?_
  refine wp_br (P := True) (c := (mx_i h 381 10) ≤ i2) (t := 18) (st' := []) rfl rfl trivial (fun c1 => ?_) (fun c1 => ?_)
  · have c1 := Int32.not_lt.mpr c1
    have H := H.2 c1
    refine wp_steps (i' := 23) (ls' := [some (.ref 381), some (.ref s1), some (.int i2), w3]) (st' := [.ref s1, .int (i2 - (mx_i h 381 11))]) (h' := h) (P := ((mxT 381).1 = 11 ∧ mxG h) ∧ True) 5 rfl rfl ⟨⟨(congrArg Prod.fst sT_381), G⟩, trivial⟩ ?_
    obtain ⟨o2, o3, o4, o5, H⟩ := H
    refine wp_call (b := false) (y' := 307) (as := [.ref s1]) (rest := [.int (i2 - (mx_i h 381 11))]) (P := (30 ≤ s1 ∧ s1 < 82 ∧ s1 % 2 = 0)) rfl (by with_unfolding_all rfl) o2 (Nat.le_of_ble_eq_true rfl) (sp_307 G o2 o3 o4 o5 ?_)
    show mx_wp (d + 4) 212 24 [some (.ref 381), some (.ref s1), some (.int i2), w3] [.int (V_307 h s1), .int (i2 - (mx_i h 381 11))] h Q
    refine wp_br (P := True) (c := (i2 - (mx_i h 381 11)) = (V_307 h s1)) (t := 27) (st' := []) rfl rfl trivial (fun c6 => ?_) (fun c6 => ?_)
    · skip
      have H := H.1 c6
      refine wp_steps (i' := 29) (ls' := [some (.ref 381), some (.ref s1), some (.int i2), some (.int 0)]) (st' := []) (h' := h) (P := True) 2 rfl rfl trivial ?_
      exact H 
    · skip
      have H := H.2 c6
      refine wp_steps (i' := 26) (ls' := [some (.ref 381), some (.ref s1), some (.int i2), w3]) (st' := [.int 0]) (h' := h) (P := True) 1 rfl rfl trivial ?_
      exact wp_end (o := .inl (some (.int 0))) (h' := h) (P := ((0 : Int32) = 0 ∨ (0 : Int32) = 1)) rfl rfl (Or.inl rfl) H
  · have c1 := Int32.not_le.mp c1
    have H := H.1 c1
    refine wp_steps (i' := 11) (ls' := [some (.ref 381), some (.ref s1), some (.int i2), w3]) (st' := [.int i2, .ref 381]) (h' := h) (P := True) 2 rfl rfl trivial ?_
    obtain ⟨o7, H⟩ := H
    refine wp_call (b := false) (y' := 209) (as := [.ref 381, .int i2]) (rest := []) (P := ((mxT 381).1 = mxRc 209 ∧ mxG h)) rfl (by with_unfolding_all rfl) ⟨(congrArg Prod.fst sT_381), G⟩ (Nat.le_of_ble_eq_true rfl) (sp_209 G o7 ?_)
    show mx_wp (d + 4) 212 12 [some (.ref 381), some (.ref s1), some (.int i2), w3] [.int (V_209 h i2)] h Q
    refine wp_steps (i' := 14) (ls' := [some (.ref 381), some (.ref s1), some (.int i2), w3]) (st' := [.int 122, .int 97, .int (V_209 h i2)]) (h' := h) (P := True) 2 rfl rfl trivial ?_
    refine wp_call (b := false) (y' := 191) (as := [.int (V_209 h i2), .int 97, .int 122]) (rest := []) (P := True) rfl (by with_unfolding_all rfl) trivial (Nat.le_of_ble_eq_true rfl) (sp_191 G ?_)
    show mx_wp (d + 4) 212 15 [some (.ref 381), some (.ref s1), some (.int i2), w3] [.int (V_191 (mx_i h 382) (V_209 h i2) (97 : Int32) (122 : Int32))] h Q
    refine wp_br (P := True) (c := (V_191 (mx_i h 382) (V_209 h i2) (97 : Int32) (122 : Int32)) = 0) (t := 18) (st' := []) rfl rfl trivial (fun c8 => ?_) (fun c8 => ?_)
    · skip
      have H := H.1 c8
      refine wp_steps (i' := 23) (ls' := [some (.ref 381), some (.ref s1), some (.int i2), w3]) (st' := [.ref s1, .int (i2 - (mx_i h 381 11))]) (h' := h) (P := ((mxT 381).1 = 11 ∧ mxG h) ∧ True) 5 rfl rfl ⟨⟨(congrArg Prod.fst sT_381), G⟩, trivial⟩ ?_
      obtain ⟨o9, o10, o11, o12, H⟩ := H
      refine wp_call (b := false) (y' := 307) (as := [.ref s1]) (rest := [.int (i2 - (mx_i h 381 11))]) (P := (30 ≤ s1 ∧ s1 < 82 ∧ s1 % 2 = 0)) rfl (by with_unfolding_all rfl) o9 (Nat.le_of_ble_eq_true rfl) (sp_307 G o9 o10 o11 o12 ?_)
      show mx_wp (d + 4) 212 24 [some (.ref 381), some (.ref s1), some (.int i2), w3] [.int (V_307 h s1), .int (i2 - (mx_i h 381 11))] h Q
      refine wp_br (P := True) (c := (i2 - (mx_i h 381 11)) = (V_307 h s1)) (t := 27) (st' := []) rfl rfl trivial (fun c13 => ?_) (fun c13 => ?_)
      · skip
        have H := H.1 c13
        refine wp_steps (i' := 29) (ls' := [some (.ref 381), some (.ref s1), some (.int i2), some (.int 0)]) (st' := []) (h' := h) (P := True) 2 rfl rfl trivial ?_
        exact H 
      · skip
        have H := H.2 c13
        refine wp_steps (i' := 26) (ls' := [some (.ref 381), some (.ref s1), some (.int i2), w3]) (st' := [.int 0]) (h' := h) (P := True) 1 rfl rfl trivial ?_
        exact wp_end (o := .inl (some (.int 0))) (h' := h) (P := ((0 : Int32) = 0 ∨ (0 : Int32) = 1)) rfl rfl (Or.inl rfl) H
    · skip
      have H := H.2 c8
      refine wp_steps (i' := 17) (ls' := [some (.ref 381), some (.ref s1), some (.int (i2 + 1)), w3]) (st' := []) (h' := h) (P := True) 1 rfl rfl trivial ?_
      refine wp_J (j := 5) (st' := []) rfl rfl ?_
      exact H _
set_option maxRecDepth 8000 in
theorem tr_212_29 {d : Nat} {h : mxH} {Q : mxO → mxH → Prop}  {s1 : Nat} {i2 : Int32} {i3 : Int32} (G : mxG h)  (H : ((30 ≤ s1 ∧ s1 < 82 ∧ s1 % 2 = 0) ∧ (31 ≤ (s1 + 1) ∧ (s1 + 1) < 83 ∧ (s1 + 1) % 2 = 1) ∧ (((1 : Int32) = 0 → True) ∧ (¬ (1 : Int32) = 0 → ((30 ≤ s1 ∧ s1 < 82 ∧ s1 % 2 = 0) ∧ True))) ∧ (narrow .byte (.int ((if (1 : Int32) = 0 then 1 else 0) : Int32)) = .int ((if (1 : Int32) = 0 then 1 else 0) : Int32)) ∧ ((i3 < (V_307 h s1) → ((((mx_i h 381 9) = (-1) → (vp_in ((mx_i h 381 11) + i3) 400 ∧ True)) ∧ (¬ (mx_i h 381 9) = (-1) → (vp_in ((mx_i h 381 9) + ((mx_i h 381 11) + i3)) 769 ∧ True))) ∧ (vp_in i3 (mxSl (s1 + 1)) ∧ (((V_209 h ((mx_i h 381 11) + i3)) = (V_308 h s1 i3) → H_212_29 (d + 4) h s1 i2 (i3 + 1) Q) ∧ (¬ (V_209 h ((mx_i h 381 11) + i3)) = (V_308 h s1 i3) → Q (.inl (some (.int 0))) h))))) ∧ (¬ i3 < (V_307 h s1) → (∀ h6, h6 = mx_wi h 381 11 i2 → Q (.inl (some (.int 1))) h6))))) : H_212_29 (d + 4) h s1 i2 i3 Q := by
  show mx_wp (d + 4) 212 29 [some (.ref 381), some (.ref s1), some (.int i2), some (.int i3)] [] h Q
  refine wp_steps (i' := 31) (ls' := [some (.ref 381), some (.ref s1), some (.int i2), some (.int i3)]) (st' := [.ref s1, .int i3]) (h' := h) (P := True) 2 rfl rfl trivial ?_
  obtain ⟨o1, o2, o3, o4, H⟩ := H
  refine wp_call (b := false) (y' := 307) (as := [.ref s1]) (rest := [.int i3]) (P := (30 ≤ s1 ∧ s1 < 82 ∧ s1 % 2 = 0)) rfl (by with_unfolding_all rfl) o1 (Nat.le_of_ble_eq_true rfl) (sp_307 G o1 o2 o3 o4 ?_)
  show mx_wp (d + 4) 212 32 [some (.ref 381), some (.ref s1), some (.int i2), some (.int i3)] [.int (V_307 h s1), .int i3] h Q
  refine wp_br (P := True) (c := (V_307 h s1) ≤ i3) (t := 47) (st' := []) rfl rfl trivial (fun c5 => ?_) (fun c5 => ?_)
  · have c5 := Int32.not_lt.mpr c5
    have H := H.2 c5
    refine wp_steps (i' := 50) (ls' := [some (.ref 381), some (.ref s1), some (.int i2), some (.int i3)]) (st' := []) (h' := mx_wi h 381 11 i2) (P := ((mxT 381).1 = 11 ∧ mxG h) ∧ True) 3 rfl rfl ⟨⟨(congrArg Prod.fst sT_381), G⟩, trivial⟩ ?_
    obtain ⟨h6, e7⟩ : ∃ z9, z9 = mx_wi h 381 11 i2 := ⟨_, rfl⟩
    rw [← e7]
    have H := H h6 e7
    have G8 : mxG h6 := e7 ▸ mxG_wi G
    refine wp_steps (i' := 51) (ls' := [some (.ref 381), some (.ref s1), some (.int i2), some (.int i3)]) (st' := [.int 1]) (h' := h6) (P := True) 1 rfl rfl trivial ?_
    exact wp_end (o := .inl (some (.int 1))) (h' := h6) (P := ((1 : Int32) = 0 ∨ (1 : Int32) = 1)) rfl rfl (Or.inr rfl) H
  · have c5 := Int32.not_le.mp c5
    have H := H.1 c5
    refine wp_steps (i' := 38) (ls' := [some (.ref 381), some (.ref s1), some (.int i2), some (.int i3)]) (st' := [.int ((mx_i h 381 11) + i3), .ref 381]) (h' := h) (P := ((mxT 381).1 = 11 ∧ mxG h) ∧ True) 5 rfl rfl ⟨⟨(congrArg Prod.fst sT_381), G⟩, trivial⟩ ?_
    obtain ⟨o9, H⟩ := H
    refine wp_call (b := false) (y' := 209) (as := [.ref 381, .int ((mx_i h 381 11) + i3)]) (rest := []) (P := ((mxT 381).1 = mxRc 209 ∧ mxG h)) rfl (by with_unfolding_all rfl) ⟨(congrArg Prod.fst sT_381), G⟩ (Nat.le_of_ble_eq_true rfl) (sp_209 G o9 ?_)
    show mx_wp (d + 4) 212 39 [some (.ref 381), some (.ref s1), some (.int i2), some (.int i3)] [.int (V_209 h ((mx_i h 381 11) + i3))] h Q
    refine wp_steps (i' := 41) (ls' := [some (.ref 381), some (.ref s1), some (.int i2), some (.int i3)]) (st' := [.int i3, .ref s1, .int (V_209 h ((mx_i h 381 11) + i3))]) (h' := h) (P := True) 2 rfl rfl trivial ?_
    obtain ⟨o10, H⟩ := H
    refine wp_call (b := false) (y' := 308) (as := [.ref s1, .int i3]) (rest := [.int (V_209 h ((mx_i h 381 11) + i3))]) (P := (30 ≤ s1 ∧ s1 < 82 ∧ s1 % 2 = 0)) rfl (by with_unfolding_all rfl) o1 (Nat.le_of_ble_eq_true rfl) (sp_308 G o1 o10 ?_)
    show mx_wp (d + 4) 212 42 [some (.ref 381), some (.ref s1), some (.int i2), some (.int i3)] [.int (V_308 h s1 i3), .int (V_209 h ((mx_i h 381 11) + i3))] h Q
    refine wp_br (P := True) (c := (V_209 h ((mx_i h 381 11) + i3)) = (V_308 h s1 i3)) (t := 45) (st' := []) rfl rfl trivial (fun c11 => ?_) (fun c11 => ?_)
    · skip
      have H := H.1 c11
      refine wp_steps (i' := 46) (ls' := [some (.ref 381), some (.ref s1), some (.int i2), some (.int (i3 + 1))]) (st' := []) (h' := h) (P := True) 1 rfl rfl trivial ?_
      refine wp_J (j := 29) (st' := []) rfl rfl ?_
      exact H 
    · skip
      have H := H.2 c11
      refine wp_steps (i' := 44) (ls' := [some (.ref 381), some (.ref s1), some (.int i2), some (.int i3)]) (st' := [.int 0]) (h' := h) (P := True) 1 rfl rfl trivial ?_
      exact wp_end (o := .inl (some (.int 0))) (h' := h) (P := ((0 : Int32) = 0 ∨ (0 : Int32) = 1)) rfl rfl (Or.inl rfl) H
/-! 214: StoneBacksModel.here()I -/
set_option maxRecDepth 8000 in
theorem tr_214_0 {d : Nat} {h : mxH} {Q : mxO → mxH → Prop}  (G : mxG h)  (H : (okT h ∧ (∀ (h3 : mxH), (mxK h h3 ∧ psk h h3) → Q (.inl (some (.int (mx_i h3 381 11)))) h3))) : mx_wp (d + 2) 214 0 (mx_fr 214 [.ref 381]) [] h Q := by
  show mx_wp (d + 2) 214 0 [some (.ref 381)] [] h Q
  refine wp_steps (i' := 1) (ls' := [some (.ref 381)]) (st' := [.ref 381]) (h' := h) (P := True) 1 rfl rfl trivial ?_
  obtain ⟨o1, H⟩ := H
  refine wp_call (b := false) (y' := 210) (as := [.ref 381]) (rest := []) (P := ((mxT 381).1 = mxRc 210 ∧ mxG h)) rfl (by with_unfolding_all rfl) ⟨(congrArg Prod.fst sT_381), G⟩ (Nat.le_of_ble_eq_true rfl) (sp_210 G o1 ?_)
  intro h3 p4
  show mx_wp (d + 2) 214 2 [some (.ref 381)] [] h3 Q
  have H := H h3 p4
  have G5 : mxG h3 := mxK_G p4.1 G
  refine wp_steps (i' := 4) (ls' := [some (.ref 381)]) (st' := [.int (mx_i h3 381 11)]) (h' := h3) (P := ((mxT 381).1 = 11 ∧ mxG h3) ∧ True) 2 rfl rfl ⟨⟨(congrArg Prod.fst sT_381), G5⟩, trivial⟩ ?_
  exact wp_end (o := .inl (some (.int (mx_i h3 381 11)))) (h' := h3) (P := True) rfl rfl trivial H
