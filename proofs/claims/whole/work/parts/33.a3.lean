/-! 203: StoneBacksModel.worn(I)I -/
def H_203_4 (d : Nat) (h : mxH) (i1 : Int32) (i2 : Int32) (i3 : Int32) (Q : mxO → mxH → Prop) : Prop := mx_wp d 203 4 [some (.ref 381), some (.int i1), some (.int i2), some (.int i3)] [] h Q
set_option maxRecDepth 8000 in
theorem tr_203_0 {d : Nat} {h : mxH} {Q : mxO → mxH → Prop} {i1 : Int32} (G : mxG h)  (H : H_203_4 (d + 1) h i1 0 0 Q) : mx_wp (d + 1) 203 0 (mx_fr 203 [.ref 381, .int i1]) [] h Q := by
  show mx_wp (d + 1) 203 0 [some (.ref 381), some (.int i1), none, none] [] h Q
  refine wp_steps (i' := 4) (ls' := [some (.ref 381), some (.int i1), some (.int 0), some (.int 0)]) (st' := []) (h' := h) (P := True) 4 rfl rfl trivial ?_
  exact H 
set_option maxRecDepth 8000 in
theorem tr_203_4 {d : Nat} {h : mxH} {Q : mxO → mxH → Prop}  {i1 : Int32} {i2 : Int32} {i3 : Int32} (G : mxG h)  (H : ((i3 < (mx_i h 382 4) → (vp_in ((69 + (6 * i3)) + (3 : Int32)) 769 ∧ ((((V_198 h i3 (3 : Int32)) = 0 → (vp_in ((69 + (6 * i3)) + (4 : Int32)) 769 ∧ True)) ∧ (¬ (V_198 h i3 (3 : Int32)) = 0 → True)) ∧ (∀ (v3 : Int32), v3 = (if (V_198 h i3 (3 : Int32)) = 0 then (if (V_198 h i3 (4 : Int32)) = i1 then (1 <<< (i3 &&& 31)) else 0) else 0) → H_203_4 (d + 1) h i1 (i2 ||| v3) (i3 + 1) Q)))) ∧ (¬ i3 < (mx_i h 382 4) → Q (.inl (some (.int i2))) h))) : H_203_4 (d + 1) h i1 i2 i3 Q := by
  show mx_wp (d + 1) 203 4 [some (.ref 381), some (.int i1), some (.int i2), some (.int i3)] [] h Q
  refine wp_steps (i' := 9) (ls' := [some (.ref 381), some (.int i1), some (.int i2), some (.int i3)]) (st' := [.int (mx_i h 382 4), .int i3]) (h' := h) (P := ((mxT 381).1 = 11 ∧ mxG h) ∧ (((mxT 382).1 = 50 ∧ mxG h) ∧ vp_in 4 (mxT 382).2) ∧ True) 5 rfl rfl ⟨⟨(congrArg Prod.fst sT_381), G⟩, (cA sT_382 G (vpl rfl)), trivial⟩ ?_
  refine wp_br (P := True) (c := (mx_i h 382 4) ≤ i3) (t := 31) (st' := []) rfl rfl trivial (fun c1 => ?_) (fun c1 => ?_)
  · have c1 := Int32.not_lt.mpr c1
    have H := H.2 c1
    refine wp_steps (i' := 32) (ls' := [some (.ref 381), some (.int i1), some (.int i2), some (.int i3)]) (st' := [.int i2]) (h' := h) (P := True) 1 rfl rfl trivial ?_
    exact wp_end (o := .inl (some (.int i2))) (h' := h) (P := True) rfl rfl trivial H
  · have c1 := Int32.not_le.mp c1
    have H := H.1 c1
    refine wp_steps (i' := 14) (ls' := [some (.ref 381), some (.int i1), some (.int i2), some (.int i3)]) (st' := [.int 3, .int i3, .ref 381, .int i2]) (h' := h) (P := True) 4 rfl rfl trivial ?_
    obtain ⟨o2, H⟩ := H
    refine wp_call (b := false) (y' := 198) (as := [.ref 381, .int i3, .int 3]) (rest := [.int i2]) (P := ((mxT 381).1 = mxRc 198 ∧ mxG h)) rfl (by with_unfolding_all rfl) ⟨(congrArg Prod.fst sT_381), G⟩ (Nat.le_of_ble_eq_true rfl) (sp_198 G o2 ?_)
    show mx_wp (d + 1) 203 15 [some (.ref 381), some (.int i1), some (.int i2), some (.int i3)] [.int (V_198 h i3 (3 : Int32)), .int i2] h Q
    have J : ∀ (v3 : Int32) (ev3 : v3 = (if (V_198 h i3 (3 : Int32)) = 0 then (if (V_198 h i3 (4 : Int32)) = i1 then (1 <<< (i3 &&& 31)) else 0) else 0)), mx_wp (d + 1) 203 27 [some (.ref 381), some (.int i1), some (.int i2), some (.int i3)] [.int v3, .int i2] h Q := by
      intro v3 ev3
      have H := H.2 v3 ev3
      refine wp_steps (i' := 30) (ls' := [some (.ref 381), some (.int i1), some (.int (i2 ||| v3)), some (.int (i3 + 1))]) (st' := []) (h' := h) (P := True) 3 rfl rfl trivial ?_
      refine wp_J (j := 4) (st' := []) rfl rfl ?_
      exact H 
    have H := H.1
    refine wp_br (P := True) (c := ¬ (V_198 h i3 (3 : Int32)) = 0) (t := 26) (st' := [.int i2]) rfl rfl trivial (fun c4 => ?_) (fun c4 => ?_)
    · skip
      refine wp_steps (i' := 27) (ls' := [some (.ref 381), some (.int i1), some (.int i2), some (.int i3)]) (st' := [.int 0, .int i2]) (h' := h) (P := True) 1 rfl rfl trivial ?_
      exact J _ (by rw [if_neg c4])
    · have c4 := Decidable.of_not_not c4
      have H := H.1 c4
      refine wp_steps (i' := 19) (ls' := [some (.ref 381), some (.int i1), some (.int i2), some (.int i3)]) (st' := [.int 4, .int i3, .ref 381, .int i2]) (h' := h) (P := True) 3 rfl rfl trivial ?_
      obtain ⟨o5, H⟩ := H
      refine wp_call (b := false) (y' := 198) (as := [.ref 381, .int i3, .int 4]) (rest := [.int i2]) (P := ((mxT 381).1 = mxRc 198 ∧ mxG h)) rfl (by with_unfolding_all rfl) ⟨(congrArg Prod.fst sT_381), G⟩ (Nat.le_of_ble_eq_true rfl) (sp_198 G o5 ?_)
      show mx_wp (d + 1) 203 20 [some (.ref 381), some (.int i1), some (.int i2), some (.int i3)] [.int (V_198 h i3 (4 : Int32)), .int i2] h Q
      refine wp_steps (i' := 21) (ls' := [some (.ref 381), some (.int i1), some (.int i2), some (.int i3)]) (st' := [.int i1, .int (V_198 h i3 (4 : Int32)), .int i2]) (h' := h) (P := True) 1 rfl rfl trivial ?_
      refine wp_br (P := True) (c := ¬ (V_198 h i3 (4 : Int32)) = i1) (t := 26) (st' := [.int i2]) rfl rfl trivial (fun c6 => ?_) (fun c6 => ?_)
      · skip
        refine wp_steps (i' := 27) (ls' := [some (.ref 381), some (.int i1), some (.int i2), some (.int i3)]) (st' := [.int 0, .int i2]) (h' := h) (P := True) 1 rfl rfl trivial ?_
        exact J _ (by rw [if_pos c4, if_neg c6])
      · have c6 := Decidable.of_not_not c6
        refine wp_steps (i' := 25) (ls' := [some (.ref 381), some (.int i1), some (.int i2), some (.int i3)]) (st' := [.int (1 <<< (i3 &&& 31)), .int i2]) (h' := h) (P := True) 3 rfl rfl trivial ?_
        refine wp_J (j := 27) (st' := [.int (1 <<< (i3 &&& 31)), .int i2]) rfl rfl ?_
        exact J _ (by rw [if_pos c4, if_pos c6])
def F_203_4 (h : mxH) (i1 : Int32) (z : Nat) (s : Int32) : Int32 := (s ||| ((if (V_198 h (nI z) (3 : Int32)) = 0 then (if (V_198 h (nI z) (4 : Int32)) = i1 then (1 <<< ((nI z) &&& 31)) else 0) else 0) : Int32))
theorem lp_203_4 {d : Nat} {h : mxH} {Q : mxO → mxH → Prop} {i1 : Int32} {s0 : Int32} {n : Nat} (z0 : Nat) (G : mxG h)  (hB : (mx_i h 382 4) = nI n) (hn : n < 2147483648) (hz : z0 ≤ n) (ob : ∀ z, z0 ≤ z → z < n → (vp_in ((69 + (6 * (nI z))) + (3 : Int32)) 769 ∧ ((((V_198 h (nI z) (3 : Int32)) = 0 → (vp_in ((69 + (6 * (nI z))) + (4 : Int32)) 769 ∧ True)) ∧ (¬ (V_198 h (nI z) (3 : Int32)) = 0 → True)) ∧ True))) (k : Q (.inl (some (.int (fz (F_203_4 h i1) z0 n s0)))) h) : H_203_4 (d + 1) h i1 s0 (nI z0) Q := by
  have L : ∀ (j z : Nat), z0 ≤ z → z + j = n → H_203_4 (d + 1) h i1 (fz (F_203_4 h i1) z0 z s0) (nI z) Q := by
    intro j
    induction j with
    | zero =>
      intro z hz0 hzn
      have hzn : z = n := by omega
      subst hzn
      refine tr_203_4 G  ⟨fun c9 => absurd (hB ▸ c9) Int32.lt_irrefl, fun c9 => k⟩
    | succ j ih =>
      intro z hz0 hzn
      have hih := ih (z + 1) (by omega) (by omega)
      rw [nI_succ, fz_s hz0] at hih
      have hob := ob z hz0 (by omega)
      refine tr_203_4 G  ⟨fun c9 => ?_, fun c9 => absurd (hB.symm ▸ nI_lt (by omega) hn) c9⟩
      obtain ⟨q0, hob⟩ := hob
      refine ⟨q0, ?_⟩
      obtain ⟨q0, hob⟩ := hob
      refine ⟨q0, ?_⟩
      intro v3 ev3
      subst ev3
      exact hih
  have L0 := L (n - z0) z0 (Nat.le_refl _) (by omega)
  simp only [fz_0] at L0
  exact L0
/-! 204: StoneBacksModel.weightOf(I)I -/
def H_204_4 (d : Nat) (h : mxH) (i1 : Int32) (i2 : Int32) (i3 : Int32) (Q : mxO → mxH → Prop) : Prop := mx_wp d 204 4 [some (.ref 381), some (.int i1), some (.int i2), some (.int i3)] [] h Q
set_option maxRecDepth 8000 in
theorem tr_204_0 {d : Nat} {h : mxH} {Q : mxO → mxH → Prop} {i1 : Int32} (G : mxG h)  (H : H_204_4 (d + 1) h i1 0 0 Q) : mx_wp (d + 1) 204 0 (mx_fr 204 [.ref 381, .int i1]) [] h Q := by
  show mx_wp (d + 1) 204 0 [some (.ref 381), some (.int i1), none, none] [] h Q
  refine wp_steps (i' := 4) (ls' := [some (.ref 381), some (.int i1), some (.int 0), some (.int 0)]) (st' := []) (h' := h) (P := True) 4 rfl rfl trivial ?_
  exact H 
set_option maxRecDepth 8000 in
theorem tr_204_4 {d : Nat} {h : mxH} {Q : mxO → mxH → Prop}  {i1 : Int32} {i2 : Int32} {i3 : Int32} (G : mxG h)  (H : ((i3 < (mx_i h 382 4) → ((((V_194 h i1 i3) = 0 → True) ∧ (¬ (V_194 h i1 i3) = 0 → (vp_in ((69 + (6 * i3)) + (2 : Int32)) 769 ∧ True))) ∧ (∀ (v2 : Int32), v2 = (if (V_194 h i1 i3) = 0 then 0 else (V_198 h i3 (2 : Int32))) → H_204_4 (d + 1) h i1 (i2 + v2) (i3 + 1) Q))) ∧ (¬ i3 < (mx_i h 382 4) → Q (.inl (some (.int i2))) h))) : H_204_4 (d + 1) h i1 i2 i3 Q := by
  show mx_wp (d + 1) 204 4 [some (.ref 381), some (.int i1), some (.int i2), some (.int i3)] [] h Q
  refine wp_steps (i' := 9) (ls' := [some (.ref 381), some (.int i1), some (.int i2), some (.int i3)]) (st' := [.int (mx_i h 382 4), .int i3]) (h' := h) (P := ((mxT 381).1 = 11 ∧ mxG h) ∧ (((mxT 382).1 = 50 ∧ mxG h) ∧ vp_in 4 (mxT 382).2) ∧ True) 5 rfl rfl ⟨⟨(congrArg Prod.fst sT_381), G⟩, (cA sT_382 G (vpl rfl)), trivial⟩ ?_
  refine wp_br (P := True) (c := (mx_i h 382 4) ≤ i3) (t := 25) (st' := []) rfl rfl trivial (fun c1 => ?_) (fun c1 => ?_)
  · have c1 := Int32.not_lt.mpr c1
    have H := H.2 c1
    refine wp_steps (i' := 26) (ls' := [some (.ref 381), some (.int i1), some (.int i2), some (.int i3)]) (st' := [.int i2]) (h' := h) (P := True) 1 rfl rfl trivial ?_
    exact wp_end (o := .inl (some (.int i2))) (h' := h) (P := True) rfl rfl trivial H
  · have c1 := Int32.not_le.mp c1
    have H := H.1 c1
    refine wp_steps (i' := 13) (ls' := [some (.ref 381), some (.int i1), some (.int i2), some (.int i3)]) (st' := [.int i3, .int i1, .int i2]) (h' := h) (P := True) 3 rfl rfl trivial ?_
    refine wp_call (b := false) (y' := 194) (as := [.int i1, .int i3]) (rest := [.int i2]) (P := True) rfl (by with_unfolding_all rfl) trivial (Nat.le_of_ble_eq_true rfl) (sp_194 G ?_)
    show mx_wp (d + 1) 204 14 [some (.ref 381), some (.int i1), some (.int i2), some (.int i3)] [.int (V_194 h i1 i3), .int i2] h Q
    have J : ∀ (v2 : Int32) (ev2 : v2 = (if (V_194 h i1 i3) = 0 then 0 else (V_198 h i3 (2 : Int32)))), mx_wp (d + 1) 204 21 [some (.ref 381), some (.int i1), some (.int i2), some (.int i3)] [.int v2, .int i2] h Q := by
      intro v2 ev2
      have H := H.2 v2 ev2
      refine wp_steps (i' := 24) (ls' := [some (.ref 381), some (.int i1), some (.int (i2 + v2)), some (.int (i3 + 1))]) (st' := []) (h' := h) (P := True) 3 rfl rfl trivial ?_
      refine wp_J (j := 4) (st' := []) rfl rfl ?_
      exact H 
    have H := H.1
    refine wp_br (P := True) (c := (V_194 h i1 i3) = 0) (t := 20) (st' := [.int i2]) rfl rfl trivial (fun c3 => ?_) (fun c3 => ?_)
    · skip
      refine wp_steps (i' := 21) (ls' := [some (.ref 381), some (.int i1), some (.int i2), some (.int i3)]) (st' := [.int 0, .int i2]) (h' := h) (P := True) 1 rfl rfl trivial ?_
      exact J _ (by rw [if_pos c3])
    · skip
      have H := H.2 c3
      refine wp_steps (i' := 18) (ls' := [some (.ref 381), some (.int i1), some (.int i2), some (.int i3)]) (st' := [.int 2, .int i3, .ref 381, .int i2]) (h' := h) (P := True) 3 rfl rfl trivial ?_
      obtain ⟨o4, H⟩ := H
      refine wp_call (b := false) (y' := 198) (as := [.ref 381, .int i3, .int 2]) (rest := [.int i2]) (P := ((mxT 381).1 = mxRc 198 ∧ mxG h)) rfl (by with_unfolding_all rfl) ⟨(congrArg Prod.fst sT_381), G⟩ (Nat.le_of_ble_eq_true rfl) (sp_198 G o4 ?_)
      show mx_wp (d + 1) 204 19 [some (.ref 381), some (.int i1), some (.int i2), some (.int i3)] [.int (V_198 h i3 (2 : Int32)), .int i2] h Q
      refine wp_J (j := 21) (st' := [.int (V_198 h i3 (2 : Int32)), .int i2]) rfl rfl ?_
      exact J _ (by rw [if_neg c3])
def F_204_4 (h : mxH) (i1 : Int32) (z : Nat) (s : Int32) : Int32 := (s + ((if (V_194 h i1 (nI z)) = 0 then 0 else (V_198 h (nI z) (2 : Int32))) : Int32))
theorem lp_204_4 {d : Nat} {h : mxH} {Q : mxO → mxH → Prop} {i1 : Int32} {s0 : Int32} {n : Nat} (z0 : Nat) (G : mxG h)  (hB : (mx_i h 382 4) = nI n) (hn : n < 2147483648) (hz : z0 ≤ n) (ob : ∀ z, z0 ≤ z → z < n → ((((V_194 h i1 (nI z)) = 0 → True) ∧ (¬ (V_194 h i1 (nI z)) = 0 → (vp_in ((69 + (6 * (nI z))) + (2 : Int32)) 769 ∧ True))) ∧ True)) (k : Q (.inl (some (.int (fz (F_204_4 h i1) z0 n s0)))) h) : H_204_4 (d + 1) h i1 s0 (nI z0) Q := by
  have L : ∀ (j z : Nat), z0 ≤ z → z + j = n → H_204_4 (d + 1) h i1 (fz (F_204_4 h i1) z0 z s0) (nI z) Q := by
    intro j
    induction j with
    | zero =>
      intro z hz0 hzn
      have hzn : z = n := by omega
      subst hzn
      refine tr_204_4 G  ⟨fun c9 => absurd (hB ▸ c9) Int32.lt_irrefl, fun c9 => k⟩
    | succ j ih =>
      intro z hz0 hzn
      have hih := ih (z + 1) (by omega) (by omega)
      rw [nI_succ, fz_s hz0] at hih
      have hob := ob z hz0 (by omega)
      refine tr_204_4 G  ⟨fun c9 => ?_, fun c9 => absurd (hB.symm ▸ nI_lt (by omega) hn) c9⟩
      obtain ⟨q0, hob⟩ := hob
      refine ⟨q0, ?_⟩
      intro v2 ev2
      subst ev2
      exact hih
  have L0 := L (n - z0) z0 (Nat.le_refl _) (by omega)
  simp only [fz_0] at L0
  exact L0
/-! 207: StoneBacksModel.feed(IIIII)I -/
def H_207_13 (d : Nat) (h : mxH) (i1 : Int32) (i2 : Int32) (i3 : Int32) (i4 : Int32) (i5 : Int32) (i6 : Int32) (Q : mxO → mxH → Prop) : Prop := ∀ (w7 : Option Value), mx_wp d 207 13 [some (.ref 381), some (.int i1), some (.int i2), some (.int i3), some (.int i4), some (.int i5), some (.int i6), w7] [] h Q
set_option maxRecDepth 8000 in
theorem tr_207_0 {d : Nat} {h : mxH} {Q : mxO → mxH → Prop} {i1 : Int32} {i2 : Int32} {i3 : Int32} {i4 : Int32} {i5 : Int32} (G : mxG h)  (H : (∀ h1, h1 = mx_wi h 381 0 0 → ((400 < ((mx_i h1 381 8) + 20) → Q (.inl (some (.int (-1)))) h1) ∧ (¬ 400 < ((mx_i h1 381 8) + 20) → H_207_13 d h1 i1 i2 i3 i4 i5 0 Q)))) : mx_wp d 207 0 (mx_fr 207 [.ref 381, .int i1, .int i2, .int i3, .int i4, .int i5]) [] h Q := by
  show mx_wp d 207 0 [some (.ref 381), some (.int i1), some (.int i2), some (.int i3), some (.int i4), some (.int i5), none, none] [] h Q
  refine wp_steps (i' := 3) (ls' := [some (.ref 381), some (.int i1), some (.int i2), some (.int i3), some (.int i4), some (.int i5), none, none]) (st' := []) (h' := mx_wi h 381 0 0) (P := ((mxT 381).1 = 11 ∧ mxG h) ∧ True) 3 rfl rfl ⟨⟨(congrArg Prod.fst sT_381), G⟩, trivial⟩ ?_
  obtain ⟨h1, e2⟩ : ∃ z9, z9 = mx_wi h 381 0 0 := ⟨_, rfl⟩
  rw [← e2]
  have H := H h1 e2
  have G3 : mxG h1 := e2 ▸ mxG_wi G
  refine wp_steps (i' := 8) (ls' := [some (.ref 381), some (.int i1), some (.int i2), some (.int i3), some (.int i4), some (.int i5), none, none]) (st' := [.int 400, .int ((mx_i h1 381 8) + 20)]) (h' := h1) (P := ((mxT 381).1 = 11 ∧ mxG h1) ∧ True) 5 rfl rfl ⟨⟨(congrArg Prod.fst sT_381), G3⟩, trivial⟩ ?_
  refine wp_br (P := True) (c := ((mx_i h1 381 8) + 20) ≤ 400) (t := 11) (st' := []) rfl rfl trivial (fun c4 => ?_) (fun c4 => ?_)
  · have c4 := Int32.not_lt.mpr c4
    have H := H.2 c4
    refine wp_steps (i' := 13) (ls' := [some (.ref 381), some (.int i1), some (.int i2), some (.int i3), some (.int i4), some (.int i5), some (.int 0), none]) (st' := []) (h' := h1) (P := True) 2 rfl rfl trivial ?_
    exact H _
  · have c4 := Int32.not_le.mp c4
    have H := H.1 c4
    refine wp_steps (i' := 10) (ls' := [some (.ref 381), some (.int i1), some (.int i2), some (.int i3), some (.int i4), some (.int i5), none, none]) (st' := [.int (-1)]) (h' := h1) (P := True) 1 rfl rfl trivial ?_
    exact wp_end (o := .inl (some (.int (-1)))) (h' := h1) (P := True) rfl rfl trivial H
set_option maxRecDepth 8000 in
theorem tr_207_13 {d : Nat} {h : mxH} {Q : mxO → mxH → Prop}  {i1 : Int32} {i2 : Int32} {i3 : Int32} {i4 : Int32} {i5 : Int32} {i6 : Int32} (G : mxG h)  (H : ((i6 < 20 → (∀ (v2 : Int32), v2 = (if i6 < 4 then i1 else (if i6 < 8 then i2 else (if i6 < 12 then i3 else (if i6 < 16 then i4 else i5)))) → (vp_in (mx_i h 381 8) 400 ∧ (∀ h4, h4 = mx_wi h 386 (mx_i h 381 8).toNatClampNeg ((v2.toUInt32 >>> ((24 - (8 * (i6 - i6 / 4 * 4))).toUInt32 &&& Int32.toUInt32 31)).toInt32 &&& 255) → (∀ h7, h7 = mx_wi h4 381 8 ((mx_i h4 381 8) + 1) → H_207_13 d h7 i1 i2 i3 i4 i5 (i6 + 1) Q))))) ∧ (¬ i6 < 20 → Q (.inl (some (.int (mx_i h 381 8)))) h))) : H_207_13 d h i1 i2 i3 i4 i5 i6 Q := by
  intro w7
  show mx_wp d 207 13 [some (.ref 381), some (.int i1), some (.int i2), some (.int i3), some (.int i4), some (.int i5), some (.int i6), w7] [] h Q
  refine wp_steps (i' := 15) (ls' := [some (.ref 381), some (.int i1), some (.int i2), some (.int i3), some (.int i4), some (.int i5), some (.int i6), w7]) (st' := [.int 20, .int i6]) (h' := h) (P := True) 2 rfl rfl trivial ?_
  refine wp_br (P := True) (c := 20 ≤ i6) (t := 62) (st' := []) rfl rfl trivial (fun c1 => ?_) (fun c1 => ?_)
  · have c1 := Int32.not_lt.mpr c1
    have H := H.2 c1
    refine wp_steps (i' := 64) (ls' := [some (.ref 381), some (.int i1), some (.int i2), some (.int i3), some (.int i4), some (.int i5), some (.int i6), w7]) (st' := [.int (mx_i h 381 8)]) (h' := h) (P := ((mxT 381).1 = 11 ∧ mxG h) ∧ True) 2 rfl rfl ⟨⟨(congrArg Prod.fst sT_381), G⟩, trivial⟩ ?_
    exact wp_end (o := .inl (some (.int (mx_i h 381 8)))) (h' := h) (P := True) rfl rfl trivial H
  · have c1 := Int32.not_le.mp c1
    have H := H.1 c1
    refine wp_steps (i' := 18) (ls' := [some (.ref 381), some (.int i1), some (.int i2), some (.int i3), some (.int i4), some (.int i5), some (.int i6), w7]) (st' := [.int 4, .int i6]) (h' := h) (P := True) 2 rfl rfl trivial ?_
    have J : ∀ (v2 : Int32) (ev2 : v2 = (if i6 < 4 then i1 else (if i6 < 8 then i2 else (if i6 < 12 then i3 else (if i6 < 16 then i4 else i5))))), mx_wp d 207 37 [some (.ref 381), some (.int i1), some (.int i2), some (.int i3), some (.int i4), some (.int i5), some (.int i6), w7] [.int v2] h Q := by
      intro v2 ev2
      have H := H v2 ev2
      obtain ⟨o3, H⟩ := H
      refine wp_steps (i' := 54) (ls' := [some (.ref 381), some (.int i1), some (.int i2), some (.int i3), some (.int i4), some (.int i5), some (.int i6), some (.int v2)]) (st' := []) (h' := mx_wi h 386 (mx_i h 381 8).toNatClampNeg ((v2.toUInt32 >>> ((24 - (8 * (i6 - i6 / 4 * 4))).toUInt32 &&& Int32.toUInt32 31)).toInt32 &&& 255)) (P := ((mxT 381).1 = 11 ∧ mxG h) ∧ ((mxT 381).1 = 11 ∧ mxG h) ∧ (¬ (4 : Int32) = 0) ∧ (((mxT 386).1 = 50 ∧ mxG h) ∧ vp_in (mx_i h 381 8) (mxT 386).2) ∧ True) 17 rfl rfl ⟨⟨(congrArg Prod.fst sT_381), G⟩, ⟨(congrArg Prod.fst sT_381), G⟩, (by decide), (cA sT_386 G o3), trivial⟩ ?_
      obtain ⟨h4, e5⟩ : ∃ z9, z9 = mx_wi h 386 (mx_i h 381 8).toNatClampNeg ((v2.toUInt32 >>> ((24 - (8 * (i6 - i6 / 4 * 4))).toUInt32 &&& Int32.toUInt32 31)).toInt32 &&& 255) := ⟨_, rfl⟩
      rw [← e5]
      have H := H h4 e5
      have G6 : mxG h4 := e5 ▸ mxG_wi G
      refine wp_steps (i' := 60) (ls' := [some (.ref 381), some (.int i1), some (.int i2), some (.int i3), some (.int i4), some (.int i5), some (.int i6), some (.int v2)]) (st' := []) (h' := mx_wi h4 381 8 ((mx_i h4 381 8) + 1)) (P := ((mxT 381).1 = 11 ∧ mxG h4) ∧ ((mxT 381).1 = 11 ∧ mxG h4) ∧ True) 6 rfl rfl ⟨⟨(congrArg Prod.fst sT_381), G6⟩, ⟨(congrArg Prod.fst sT_381), G6⟩, trivial⟩ ?_
      obtain ⟨h7, e8⟩ : ∃ z9, z9 = mx_wi h4 381 8 ((mx_i h4 381 8) + 1) := ⟨_, rfl⟩
      rw [← e8]
      have H := H h7 e8
      have G9 : mxG h7 := e8 ▸ mxG_wi G6
      refine wp_steps (i' := 61) (ls' := [some (.ref 381), some (.int i1), some (.int i2), some (.int i3), some (.int i4), some (.int i5), some (.int (i6 + 1)), some (.int v2)]) (st' := []) (h' := h7) (P := True) 1 rfl rfl trivial ?_
      refine wp_J (j := 13) (st' := []) rfl rfl ?_
      exact H _
    refine wp_br (P := True) (c := 4 ≤ i6) (t := 21) (st' := []) rfl rfl trivial (fun c10 => ?_) (fun c10 => ?_)
    · have c10 := Int32.not_lt.mpr c10
      refine wp_steps (i' := 23) (ls' := [some (.ref 381), some (.int i1), some (.int i2), some (.int i3), some (.int i4), some (.int i5), some (.int i6), w7]) (st' := [.int 8, .int i6]) (h' := h) (P := True) 2 rfl rfl trivial ?_
      refine wp_br (P := True) (c := 8 ≤ i6) (t := 26) (st' := []) rfl rfl trivial (fun c11 => ?_) (fun c11 => ?_)
      · have c11 := Int32.not_lt.mpr c11
        refine wp_steps (i' := 28) (ls' := [some (.ref 381), some (.int i1), some (.int i2), some (.int i3), some (.int i4), some (.int i5), some (.int i6), w7]) (st' := [.int 12, .int i6]) (h' := h) (P := True) 2 rfl rfl trivial ?_
        refine wp_br (P := True) (c := 12 ≤ i6) (t := 31) (st' := []) rfl rfl trivial (fun c12 => ?_) (fun c12 => ?_)
        · have c12 := Int32.not_lt.mpr c12
          refine wp_steps (i' := 33) (ls' := [some (.ref 381), some (.int i1), some (.int i2), some (.int i3), some (.int i4), some (.int i5), some (.int i6), w7]) (st' := [.int 16, .int i6]) (h' := h) (P := True) 2 rfl rfl trivial ?_
          refine wp_br (P := True) (c := 16 ≤ i6) (t := 36) (st' := []) rfl rfl trivial (fun c13 => ?_) (fun c13 => ?_)
          · have c13 := Int32.not_lt.mpr c13
            refine wp_steps (i' := 37) (ls' := [some (.ref 381), some (.int i1), some (.int i2), some (.int i3), some (.int i4), some (.int i5), some (.int i6), w7]) (st' := [.int i5]) (h' := h) (P := True) 1 rfl rfl trivial ?_
            exact J _ (by rw [if_neg c10, if_neg c11, if_neg c12, if_neg c13])
          · have c13 := Int32.not_le.mp c13
            refine wp_steps (i' := 35) (ls' := [some (.ref 381), some (.int i1), some (.int i2), some (.int i3), some (.int i4), some (.int i5), some (.int i6), w7]) (st' := [.int i4]) (h' := h) (P := True) 1 rfl rfl trivial ?_
            refine wp_J (j := 37) (st' := [.int i4]) rfl rfl ?_
            exact J _ (by rw [if_neg c10, if_neg c11, if_neg c12, if_pos c13])
        · have c12 := Int32.not_le.mp c12
          refine wp_steps (i' := 30) (ls' := [some (.ref 381), some (.int i1), some (.int i2), some (.int i3), some (.int i4), some (.int i5), some (.int i6), w7]) (st' := [.int i3]) (h' := h) (P := True) 1 rfl rfl trivial ?_
          refine wp_J (j := 37) (st' := [.int i3]) rfl rfl ?_
          exact J _ (by rw [if_neg c10, if_neg c11, if_pos c12])
      · have c11 := Int32.not_le.mp c11
        refine wp_steps (i' := 25) (ls' := [some (.ref 381), some (.int i1), some (.int i2), some (.int i3), some (.int i4), some (.int i5), some (.int i6), w7]) (st' := [.int i2]) (h' := h) (P := True) 1 rfl rfl trivial ?_
        refine wp_J (j := 37) (st' := [.int i2]) rfl rfl ?_
        exact J _ (by rw [if_neg c10, if_pos c11])
    · have c10 := Int32.not_le.mp c10
      refine wp_steps (i' := 20) (ls' := [some (.ref 381), some (.int i1), some (.int i2), some (.int i3), some (.int i4), some (.int i5), some (.int i6), w7]) (st' := [.int i1]) (h' := h) (P := True) 1 rfl rfl trivial ?_
      refine wp_J (j := 37) (st' := [.int i1]) rfl rfl ?_
      exact J _ (by rw [if_pos c10])
def F_207_13 (i1 : Int32) (i2 : Int32) (i3 : Int32) (i4 : Int32) (i5 : Int32) (z : Nat) (s : mxH) : mxH := (mx_wi (mx_wi s 386 (mx_i s 381 8).toNatClampNeg ((((if (nI z) < 4 then i1 else (if (nI z) < 8 then i2 else (if (nI z) < 12 then i3 else (if (nI z) < 16 then i4 else i5)))) : Int32).toUInt32 >>> ((24 - (8 * ((nI z) - (nI z) / 4 * 4))).toUInt32 &&& Int32.toUInt32 31)).toInt32 &&& 255)) 381 8 ((mx_i (mx_wi s 386 (mx_i s 381 8).toNatClampNeg ((((if (nI z) < 4 then i1 else (if (nI z) < 8 then i2 else (if (nI z) < 12 then i3 else (if (nI z) < 16 then i4 else i5)))) : Int32).toUInt32 >>> ((24 - (8 * ((nI z) - (nI z) / 4 * 4))).toUInt32 &&& Int32.toUInt32 31)).toInt32 &&& 255)) 381 8) + 1))
theorem K_207_13 {i1 : Int32} {i2 : Int32} {i3 : Int32} {i4 : Int32} {i5 : Int32} (z : Nat) (s : mxH) : mxK s ((F_207_13 i1 i2 i3 i4 i5) z s) := by
  unfold F_207_13
  (try simp only []); repeat' (first | with_reducible exact mxK_rfl | with_reducible exact mxK_wi | with_reducible exact mxK_wrow | with_reducible refine mxK_ite ?_ ?_ | with_reducible refine mxK_tr ?_ mxK_wi | with_reducible refine mxK_tr ?_ mxK_wrow)
theorem lp_207_13 {d : Nat} {Q : mxO → mxH → Prop} {i1 : Int32} {i2 : Int32} {i3 : Int32} {i4 : Int32} {i5 : Int32} {s0 : mxH} {n : Nat} (z0 : Nat) (G : mxG s0)  (hB : ∀ z, z0 ≤ z → z ≤ n → (20 : Int32) = nI n) (hn : n < 2147483648) (hz : z0 ≤ n) (ob : ∀ z, z0 ≤ z → z < n → (vp_in (mx_i (fz (F_207_13 i1 i2 i3 i4 i5) z0 z s0) 381 8) 400 ∧ True)) (k : Q (.inl (some (.int (mx_i (fz (F_207_13 i1 i2 i3 i4 i5) z0 n s0) 381 8)))) (fz (F_207_13 i1 i2 i3 i4 i5) z0 n s0)) : H_207_13 d s0 i1 i2 i3 i4 i5 (nI z0) Q := by
  have L : ∀ (j z : Nat), z0 ≤ z → z + j = n → H_207_13 d (fz (F_207_13 i1 i2 i3 i4 i5) z0 z s0) i1 i2 i3 i4 i5 (nI z) Q := by
    intro j
    induction j with
    | zero =>
      intro z hz0 hzn
      have hzn : z = n := by omega
      subst hzn
      have Gz : mxG (fz (F_207_13 i1 i2 i3 i4 i5) z0 z s0) := mxK_G (mxK_fz (g := fun s => s) (fun z s => K_207_13 z s) z0 z s0) G
      have hBz := hB z hz0 (by omega)
      refine tr_207_13 Gz  ⟨fun c9 => absurd (hBz ▸ c9) Int32.lt_irrefl, fun c9 => k⟩
    | succ j ih =>
      intro z hz0 hzn
      have hih := ih (z + 1) (by omega) (by omega)
      rw [nI_succ, fz_s hz0] at hih
      have Gz : mxG (fz (F_207_13 i1 i2 i3 i4 i5) z0 z s0) := mxK_G (mxK_fz (g := fun s => s) (fun z s => K_207_13 z s) z0 z s0) G
      have hBz := hB z hz0 (by omega)
      have hob := ob z hz0 (by omega)
      refine tr_207_13 Gz  ⟨fun c9 => ?_, fun c9 => absurd (hBz.symm ▸ nI_lt (by omega) hn) c9⟩
      intro v2 ev2
      subst ev2
      obtain ⟨q0, hob⟩ := hob
      refine ⟨q0, ?_⟩
      intro h4 eh4
      subst eh4
      intro h7 eh7
      subst eh7
      exact hih
  have L0 := L (n - z0) z0 (Nat.le_refl _) (by omega)
  simp only [fz_0] at L0
  exact L0
/-! 208: StoneBacksModel.end(I)Z -/
set_option maxRecDepth 8000 in
theorem tr_208_0 {d : Nat} {h : mxH} {Q : mxO → mxH → Prop} {i1 : Int32} (G : mxG h)  (H : (∀ h1, h1 = mx_wi h 381 0 0 → (((V_191 h1 i1 (0 : Int32) (mx_i h1 381 8)) = 0 → Q (.inl (some (.int 0))) h1) ∧ (¬ (V_191 h1 i1 (0 : Int32) (mx_i h1 381 8)) = 0 → (∀ h5, h5 = mx_wi h1 381 8 i1 → Q (.inl (some (.int 1))) h5))))) : mx_wp (d + 1) 208 0 (mx_fr 208 [.ref 381, .int i1]) [] h Q := by
  show mx_wp (d + 1) 208 0 [some (.ref 381), some (.int i1)] [] h Q
  refine wp_steps (i' := 3) (ls' := [some (.ref 381), some (.int i1)]) (st' := []) (h' := mx_wi h 381 0 0) (P := ((mxT 381).1 = 11 ∧ mxG h) ∧ True) 3 rfl rfl ⟨⟨(congrArg Prod.fst sT_381), G⟩, trivial⟩ ?_
  obtain ⟨h1, e2⟩ : ∃ z9, z9 = mx_wi h 381 0 0 := ⟨_, rfl⟩
  rw [← e2]
  have H := H h1 e2
  have G3 : mxG h1 := e2 ▸ mxG_wi G
  refine wp_steps (i' := 7) (ls' := [some (.ref 381), some (.int i1)]) (st' := [.int (mx_i h1 381 8), .int 0, .int i1]) (h' := h1) (P := ((mxT 381).1 = 11 ∧ mxG h1) ∧ True) 4 rfl rfl ⟨⟨(congrArg Prod.fst sT_381), G3⟩, trivial⟩ ?_
  refine wp_call (b := false) (y' := 191) (as := [.int i1, .int 0, .int (mx_i h1 381 8)]) (rest := []) (P := True) rfl (by with_unfolding_all rfl) trivial (Nat.le_of_ble_eq_true rfl) (sp_191 G3 ?_)
  show mx_wp (d + 1) 208 8 [some (.ref 381), some (.int i1)] [.int (V_191 h1 i1 (0 : Int32) (mx_i h1 381 8))] h1 Q
  refine wp_br (P := True) (c := ¬ (V_191 h1 i1 (0 : Int32) (mx_i h1 381 8)) = 0) (t := 11) (st' := []) rfl rfl trivial (fun c4 => ?_) (fun c4 => ?_)
  · skip
    have H := H.2 c4
    refine wp_steps (i' := 14) (ls' := [some (.ref 381), some (.int i1)]) (st' := []) (h' := mx_wi h1 381 8 i1) (P := ((mxT 381).1 = 11 ∧ mxG h1) ∧ True) 3 rfl rfl ⟨⟨(congrArg Prod.fst sT_381), G3⟩, trivial⟩ ?_
    obtain ⟨h5, e6⟩ : ∃ z9, z9 = mx_wi h1 381 8 i1 := ⟨_, rfl⟩
    rw [← e6]
    have H := H h5 e6
    have G7 : mxG h5 := e6 ▸ mxG_wi G3
    refine wp_steps (i' := 15) (ls' := [some (.ref 381), some (.int i1)]) (st' := [.int 1]) (h' := h5) (P := True) 1 rfl rfl trivial ?_
    exact wp_end (o := .inl (some (.int 1))) (h' := h5) (P := ((1 : Int32) = 0 ∨ (1 : Int32) = 1)) rfl rfl (Or.inr rfl) H
  · have c4 := Decidable.of_not_not c4
    have H := H.1 c4
    refine wp_steps (i' := 10) (ls' := [some (.ref 381), some (.int i1)]) (st' := [.int 0]) (h' := h1) (P := True) 1 rfl rfl trivial ?_
    exact wp_end (o := .inl (some (.int 0))) (h' := h1) (P := ((0 : Int32) = 0 ∨ (0 : Int32) = 1)) rfl rfl (Or.inl rfl) H
def V_208 (h : mxH) (i1 : Int32) : Int32 := (if (V_191 (mx_wi h 381 0 0) i1 (0 : Int32) (mx_i (mx_wi h 381 0 0) 381 8)) = 0 then 0 else 1)
def W_208 (h : mxH) (i1 : Int32) : mxH := (if (V_191 (mx_wi h 381 0 0) i1 (0 : Int32) (mx_i (mx_wi h 381 0 0) 381 8)) = 0 then (mx_wi h 381 0 0) else (mx_wi (mx_wi h 381 0 0) 381 8 i1))
theorem KW_208 {h : mxH} {i1 : Int32} : mxK h (W_208 h i1) := by
  unfold W_208
  repeat' (first | with_reducible exact mxK_rfl | with_reducible exact mxK_wi | with_reducible exact mxK_wrow | with_reducible refine mxK_ite ?_ ?_ | with_reducible refine mxK_tr ?_ mxK_wi | with_reducible refine mxK_tr ?_ mxK_wrow)
theorem sp_208 {d : Nat} {h : mxH} {Q : mxO → mxH → Prop} {i1 : Int32} (G : mxG h)  (k : Q (.inl (some (.int (V_208 h i1)))) (W_208 h i1)) : mx_wp (d + 1) 208 0 (mx_fr 208 [.ref 381, .int i1]) [] h Q := by
  unfold V_208 W_208 at k
  refine tr_208_0 G  ?_
  intro h1 eh1
  subst eh1
  refine ⟨fun c9 => ?_, fun c9 => ?_⟩
  · try simp only [if_pos c9] at k
    exact k
  · try simp only [if_neg c9] at k
    intro h5 eh5
    subst eh5
    exact k
/-! 209: StoneBacksModel.letter(I)I -/
set_option maxRecDepth 8000 in
theorem tr_209_0 {d : Nat} {h : mxH} {Q : mxO → mxH → Prop} {i1 : Int32} (G : mxG h)  (H : ((((mx_i h 381 9) = (-1) → (vp_in i1 400 ∧ True)) ∧ (¬ (mx_i h 381 9) = (-1) → (vp_in ((mx_i h 381 9) + i1) 769 ∧ True))) ∧ (∀ (v1 : Int32), v1 = (if (mx_i h 381 9) = (-1) then (mx_i h 386 i1.toNatClampNeg) else (mx_i h 382 ((mx_i h 381 9) + i1).toNatClampNeg)) → Q (.inl (some (.int v1))) h))) : mx_wp d 209 0 (mx_fr 209 [.ref 381, .int i1]) [] h Q := by
  show mx_wp d 209 0 [some (.ref 381), some (.int i1)] [] h Q
  refine wp_steps (i' := 3) (ls' := [some (.ref 381), some (.int i1)]) (st' := [.int (-1), .int (mx_i h 381 9)]) (h' := h) (P := ((mxT 381).1 = 11 ∧ mxG h) ∧ True) 3 rfl rfl ⟨⟨(congrArg Prod.fst sT_381), G⟩, trivial⟩ ?_
  have J : ∀ (v1 : Int32) (ev1 : v1 = (if (mx_i h 381 9) = (-1) then (mx_i h 386 i1.toNatClampNeg) else (mx_i h 382 ((mx_i h 381 9) + i1).toNatClampNeg))), mx_wp d 209 16 [some (.ref 381), some (.int i1)] [.int v1] h Q := by
    intro v1 ev1
    have H := H.2 v1 ev1
    exact wp_end (o := .inl (some (.int v1))) (h' := h) (P := True) rfl rfl trivial H
  have H := H.1
  refine wp_br (P := True) (c := ¬ (mx_i h 381 9) = (-1)) (t := 9) (st' := []) rfl rfl trivial (fun c2 => ?_) (fun c2 => ?_)
  · skip
    have H := H.2 c2
    obtain ⟨o3, H⟩ := H
    refine wp_steps (i' := 16) (ls' := [some (.ref 381), some (.int i1)]) (st' := [.int (mx_i h 382 ((mx_i h 381 9) + i1).toNatClampNeg)]) (h' := h) (P := ((mxT 381).1 = 11 ∧ mxG h) ∧ ((mxT 381).1 = 11 ∧ mxG h) ∧ (((mxT 382).1 = 50 ∧ mxG h) ∧ vp_in ((mx_i h 381 9) + i1) (mxT 382).2) ∧ True) 7 rfl rfl ⟨⟨(congrArg Prod.fst sT_381), G⟩, ⟨(congrArg Prod.fst sT_381), G⟩, (cA sT_382 G o3), trivial⟩ ?_
    exact J _ (by rw [if_neg c2])
  · have c2 := Decidable.of_not_not c2
    have H := H.1 c2
    obtain ⟨o4, H⟩ := H
    refine wp_steps (i' := 8) (ls' := [some (.ref 381), some (.int i1)]) (st' := [.int (mx_i h 386 i1.toNatClampNeg)]) (h' := h) (P := ((mxT 381).1 = 11 ∧ mxG h) ∧ (((mxT 386).1 = 50 ∧ mxG h) ∧ vp_in i1 (mxT 386).2) ∧ True) 4 rfl rfl ⟨⟨(congrArg Prod.fst sT_381), G⟩, (cA sT_386 G o4), trivial⟩ ?_
    refine wp_J (j := 16) (st' := [.int (mx_i h 386 i1.toNatClampNeg)]) rfl rfl ?_
    exact J _ (by rw [if_pos c2])
def V_209 (h : mxH) (i1 : Int32) : Int32 := ((if (mx_i h 381 9) = (-1) then (mx_i h 386 i1.toNatClampNeg) else (mx_i h 382 ((mx_i h 381 9) + i1).toNatClampNeg)) : Int32)
theorem sp_209 {d : Nat} {h : mxH} {Q : mxO → mxH → Prop} {i1 : Int32} (G : mxG h)  (x0 : (((mx_i h 381 9) = (-1) → (vp_in i1 400 ∧ True)) ∧ (¬ (mx_i h 381 9) = (-1) → (vp_in ((mx_i h 381 9) + i1) 769 ∧ True)))) (k : Q (.inl (some (.int (V_209 h i1)))) h) : mx_wp d 209 0 (mx_fr 209 [.ref 381, .int i1]) [] h Q := by
  unfold V_209 at k
  have hob : ((((mx_i h 381 9) = (-1) → (vp_in i1 400 ∧ True)) ∧ (¬ (mx_i h 381 9) = (-1) → (vp_in ((mx_i h 381 9) + i1) 769 ∧ True))) ∧ True) := ⟨x0, trivial⟩
  refine tr_209_0 G  ?_
  obtain ⟨q0, hob⟩ := hob
  refine ⟨q0, ?_⟩
  intro v1 ev1
  subst ev1
  exact k
/-! 210: StoneBacksModel.skip()V -/
def H_210_0 (d : Nat) (h : mxH) (Q : mxO → mxH → Prop) : Prop := mx_wp d 210 0 [some (.ref 381)] [] h Q
set_option maxRecDepth 8000 in
theorem tr_210_0 {d : Nat} {h : mxH} {Q : mxO → mxH → Prop}  (G : mxG h)  (H : H_210_0 (d + 1) h Q) : mx_wp (d + 1) 210 0 (mx_fr 210 [.ref 381]) [] h Q := by
  show mx_wp (d + 1) 210 0 [some (.ref 381)] [] h Q
  exact H 
set_option maxRecDepth 8000 in
theorem tr_210_0 {d : Nat} {h : mxH} {Q : mxO → mxH → Prop}  (G : mxG h)  (H : (((mx_i h 381 11) < (mx_i h 381 10) → ((((mx_i h 381 9) = (-1) → (vp_in (mx_i h 381 11) 400 ∧ True)) ∧ (¬ (mx_i h 381 9) = (-1) → (vp_in ((mx_i h 381 9) + (mx_i h 381 11)) 769 ∧ True))) ∧ (((V_209 h (mx_i h 381 11)) = 32 → (∀ h4, h4 = mx_wi h 381 11 ((mx_i h 381 11) + 1) → H_210_0 (d + 1) h4 Q)) ∧ (¬ (V_209 h (mx_i h 381 11)) = 32 → Q (.inl none) h)))) ∧ (¬ (mx_i h 381 11) < (mx_i h 381 10) → Q (.inl none) h))) : H_210_0 (d + 1) h  Q := by
  show mx_wp (d + 1) 210 0 [some (.ref 381)] [] h Q
  refine wp_steps (i' := 4) (ls' := [some (.ref 381)]) (st' := [.int (mx_i h 381 10), .int (mx_i h 381 11)]) (h' := h) (P := ((mxT 381).1 = 11 ∧ mxG h) ∧ ((mxT 381).1 = 11 ∧ mxG h) ∧ True) 4 rfl rfl ⟨⟨(congrArg Prod.fst sT_381), G⟩, ⟨(congrArg Prod.fst sT_381), G⟩, trivial⟩ ?_
  refine wp_br (P := True) (c := (mx_i h 381 10) ≤ (mx_i h 381 11)) (t := 18) (st' := []) rfl rfl trivial (fun c1 => ?_) (fun c1 => ?_)
  · have c1 := Int32.not_lt.mpr c1
    have H := H.2 c1
    exact wp_end (o := .inl none) (h' := h) (P := True) rfl rfl trivial H
  · have c1 := Int32.not_le.mp c1
    have H := H.1 c1
    refine wp_steps (i' := 8) (ls' := [some (.ref 381)]) (st' := [.int (mx_i h 381 11), .ref 381]) (h' := h) (P := ((mxT 381).1 = 11 ∧ mxG h) ∧ True) 3 rfl rfl ⟨⟨(congrArg Prod.fst sT_381), G⟩, trivial⟩ ?_
    obtain ⟨o2, H⟩ := H
    refine wp_call (b := false) (y' := 209) (as := [.ref 381, .int (mx_i h 381 11)]) (rest := []) (P := ((mxT 381).1 = mxRc 209 ∧ mxG h)) rfl (by with_unfolding_all rfl) ⟨(congrArg Prod.fst sT_381), G⟩ (Nat.le_of_ble_eq_true rfl) (sp_209 G o2 ?_)
    show mx_wp (d + 1) 210 9 [some (.ref 381)] [.int (V_209 h (mx_i h 381 11))] h Q
    refine wp_steps (i' := 10) (ls' := [some (.ref 381)]) (st' := [.int 32, .int (V_209 h (mx_i h 381 11))]) (h' := h) (P := True) 1 rfl rfl trivial ?_
    refine wp_br (P := True) (c := ¬ (V_209 h (mx_i h 381 11)) = 32) (t := 18) (st' := []) rfl rfl trivial (fun c3 => ?_) (fun c3 => ?_)
    · skip
      have H := H.2 c3
      exact wp_end (o := .inl none) (h' := h) (P := True) rfl rfl trivial H
    · have c3 := Decidable.of_not_not c3
      have H := H.1 c3
      refine wp_steps (i' := 17) (ls' := [some (.ref 381)]) (st' := []) (h' := mx_wi h 381 11 ((mx_i h 381 11) + 1)) (P := ((mxT 381).1 = 11 ∧ mxG h) ∧ ((mxT 381).1 = 11 ∧ mxG h) ∧ True) 6 rfl rfl ⟨⟨(congrArg Prod.fst sT_381), G⟩, ⟨(congrArg Prod.fst sT_381), G⟩, trivial⟩ ?_
      obtain ⟨h4, e5⟩ : ∃ z9, z9 = mx_wi h 381 11 ((mx_i h 381 11) + 1) := ⟨_, rfl⟩
      rw [← e5]
      have H := H h4 e5
      have G6 : mxG h4 := e5 ▸ mxG_wi G
      refine wp_J (j := 0) (st' := []) rfl rfl ?_
      exact H 
/-! 213: StoneBacksModel.wrong(I)V -/
set_option maxRecDepth 8000 in
theorem tr_213_0 {d : Nat} {h : mxH} {Q : mxO → mxH → Prop} {i1 : Int32} (G : mxG h)  (H : (((mx_i h 381 12) = (-1) → (∀ h2, h2 = mx_wi h 381 12 i1 → Q (.inl none) h2)) ∧ (¬ (mx_i h 381 12) = (-1) → Q (.inl none) h))) : mx_wp d 213 0 (mx_fr 213 [.ref 381, .int i1]) [] h Q := by
  show mx_wp d 213 0 [some (.ref 381), some (.int i1)] [] h Q
  refine wp_steps (i' := 3) (ls' := [some (.ref 381), some (.int i1)]) (st' := [.int (-1), .int (mx_i h 381 12)]) (h' := h) (P := ((mxT 381).1 = 11 ∧ mxG h) ∧ True) 3 rfl rfl ⟨⟨(congrArg Prod.fst sT_381), G⟩, trivial⟩ ?_
  refine wp_br (P := True) (c := ¬ (mx_i h 381 12) = (-1)) (t := 7) (st' := []) rfl rfl trivial (fun c1 => ?_) (fun c1 => ?_)
  · skip
    have H := H.2 c1
    exact wp_end (o := .inl none) (h' := h) (P := True) rfl rfl trivial H
  · have c1 := Decidable.of_not_not c1
    have H := H.1 c1
    refine wp_steps (i' := 7) (ls' := [some (.ref 381), some (.int i1)]) (st' := []) (h' := mx_wi h 381 12 i1) (P := ((mxT 381).1 = 11 ∧ mxG h) ∧ True) 3 rfl rfl ⟨⟨(congrArg Prod.fst sT_381), G⟩, trivial⟩ ?_
    obtain ⟨h2, e3⟩ : ∃ z9, z9 = mx_wi h 381 12 i1 := ⟨_, rfl⟩
    rw [← e3]
    have H := H h2 e3
    have G4 : mxG h2 := e3 ▸ mxG_wi G
    exact wp_end (o := .inl none) (h' := h2) (P := True) rfl rfl trivial H
def W_213 (h : mxH) (i1 : Int32) : mxH := (if (mx_i h 381 12) = (-1) then (mx_wi h 381 12 i1) else h)
theorem KW_213 {h : mxH} {i1 : Int32} : mxK h (W_213 h i1) := by
  unfold W_213
  repeat' (first | with_reducible exact mxK_rfl | with_reducible exact mxK_wi | with_reducible exact mxK_wrow | with_reducible refine mxK_ite ?_ ?_ | with_reducible refine mxK_tr ?_ mxK_wi | with_reducible refine mxK_tr ?_ mxK_wrow)
theorem sp_213 {d : Nat} {h : mxH} {Q : mxO → mxH → Prop} {i1 : Int32} (G : mxG h)  (k : Q (.inl none) (W_213 h i1)) : mx_wp d 213 0 (mx_fr 213 [.ref 381, .int i1]) [] h Q := by
  unfold W_213 at k
  refine tr_213_0 G  ?_
  refine ⟨fun c9 => ?_, fun c9 => ?_⟩
  · try simp only [if_pos c9] at k
    intro h2 eh2
    subst eh2
    exact k
  · try simp only [if_neg c9] at k
    exact k
/-! 220: StoneBacksModel.adds(IIII)V -/
set_option maxRecDepth 8000 in
theorem tr_220_0 {d : Nat} {h : mxH} {Q : mxO → mxH → Prop} {i1 : Int32} {i2 : Int32} {i3 : Int32} {i4 : Int32} (G : mxG h)  (H : (vp_in ((69 + (6 * (mx_i h 382 4))) + (0 : Int32)) 769 ∧ (∀ h2, h2 = W_199 h (mx_i h 382 4) (0 : Int32) i1 → (vp_in ((69 + (6 * (mx_i h 382 4))) + (1 : Int32)) 769 ∧ (∀ h7, h7 = W_199 h2 (mx_i h 382 4) (1 : Int32) i2 → (vp_in ((69 + (6 * (mx_i h 382 4))) + (2 : Int32)) 769 ∧ (∀ h12, h12 = W_199 h7 (mx_i h 382 4) (2 : Int32) i3 → (vp_in ((69 + (6 * (mx_i h 382 4))) + (3 : Int32)) 769 ∧ (∀ h17, h17 = W_199 h12 (mx_i h 382 4) (3 : Int32) (0 : Int32) → (vp_in ((69 + (6 * (mx_i h 382 4))) + (4 : Int32)) 769 ∧ (∀ h22, h22 = W_199 h17 (mx_i h 382 4) (4 : Int32) i4 → (vp_in ((69 + (6 * (mx_i h 382 4))) + (5 : Int32)) 769 ∧ (∀ h27, h27 = W_199 h22 (mx_i h 382 4) (5 : Int32) (0 : Int32) → (∀ h31, h31 = mx_wi h27 382 4 ((mx_i h27 382 4) + 1) → Q (.inl none) h31)))))))))))))) : mx_wp (d + 1) 220 0 (mx_fr 220 [.ref 381, .int i1, .int i2, .int i3, .int i4]) [] h Q := by
  show mx_wp (d + 1) 220 0 [some (.ref 381), some (.int i1), some (.int i2), some (.int i3), some (.int i4), none] [] h Q
  refine wp_steps (i' := 9) (ls' := [some (.ref 381), some (.int i1), some (.int i2), some (.int i3), some (.int i4), some (.int (mx_i h 382 4))]) (st' := [.int i1, .int 0, .int (mx_i h 382 4), .ref 381]) (h' := h) (P := ((mxT 381).1 = 11 ∧ mxG h) ∧ (((mxT 382).1 = 50 ∧ mxG h) ∧ vp_in 4 (mxT 382).2) ∧ True) 9 rfl rfl ⟨⟨(congrArg Prod.fst sT_381), G⟩, (cA sT_382 G (vpl rfl)), trivial⟩ ?_
  obtain ⟨o1, H⟩ := H
  refine wp_call (b := false) (y' := 199) (as := [.ref 381, .int (mx_i h 382 4), .int 0, .int i1]) (rest := []) (P := ((mxT 381).1 = mxRc 199 ∧ mxG h)) rfl (by with_unfolding_all rfl) ⟨(congrArg Prod.fst sT_381), G⟩ (Nat.le_of_ble_eq_true rfl) (sp_199 G o1 ?_)
  show mx_wp (d + 1) 220 10 [some (.ref 381), some (.int i1), some (.int i2), some (.int i3), some (.int i4), some (.int (mx_i h 382 4))] [] (W_199 h (mx_i h 382 4) (0 : Int32) i1) Q
  obtain ⟨h2, e3⟩ : ∃ z9, z9 = W_199 h (mx_i h 382 4) (0 : Int32) i1 := ⟨_, rfl⟩
  rw [← e3]
  have H := H h2 e3
  have K5 : mxK h h2 := e3 ▸ KW_199
  have G4 : mxG h2 := mxK_G K5 G
  refine wp_steps (i' := 14) (ls' := [some (.ref 381), some (.int i1), some (.int i2), some (.int i3), some (.int i4), some (.int (mx_i h 382 4))]) (st' := [.int i2, .int 1, .int (mx_i h 382 4), .ref 381]) (h' := h2) (P := True) 4 rfl rfl trivial ?_
  obtain ⟨o6, H⟩ := H
  refine wp_call (b := false) (y' := 199) (as := [.ref 381, .int (mx_i h 382 4), .int 1, .int i2]) (rest := []) (P := ((mxT 381).1 = mxRc 199 ∧ mxG h2)) rfl (by with_unfolding_all rfl) ⟨(congrArg Prod.fst sT_381), G4⟩ (Nat.le_of_ble_eq_true rfl) (sp_199 G4 o6 ?_)
  show mx_wp (d + 1) 220 15 [some (.ref 381), some (.int i1), some (.int i2), some (.int i3), some (.int i4), some (.int (mx_i h 382 4))] [] (W_199 h2 (mx_i h 382 4) (1 : Int32) i2) Q
  obtain ⟨h7, e8⟩ : ∃ z9, z9 = W_199 h2 (mx_i h 382 4) (1 : Int32) i2 := ⟨_, rfl⟩
  rw [← e8]
  have H := H h7 e8
  have K10 : mxK h2 h7 := e8 ▸ KW_199
  have G9 : mxG h7 := mxK_G K10 G4
  refine wp_steps (i' := 19) (ls' := [some (.ref 381), some (.int i1), some (.int i2), some (.int i3), some (.int i4), some (.int (mx_i h 382 4))]) (st' := [.int i3, .int 2, .int (mx_i h 382 4), .ref 381]) (h' := h7) (P := True) 4 rfl rfl trivial ?_
  obtain ⟨o11, H⟩ := H
  refine wp_call (b := false) (y' := 199) (as := [.ref 381, .int (mx_i h 382 4), .int 2, .int i3]) (rest := []) (P := ((mxT 381).1 = mxRc 199 ∧ mxG h7)) rfl (by with_unfolding_all rfl) ⟨(congrArg Prod.fst sT_381), G9⟩ (Nat.le_of_ble_eq_true rfl) (sp_199 G9 o11 ?_)
  show mx_wp (d + 1) 220 20 [some (.ref 381), some (.int i1), some (.int i2), some (.int i3), some (.int i4), some (.int (mx_i h 382 4))] [] (W_199 h7 (mx_i h 382 4) (2 : Int32) i3) Q
  obtain ⟨h12, e13⟩ : ∃ z9, z9 = W_199 h7 (mx_i h 382 4) (2 : Int32) i3 := ⟨_, rfl⟩
  rw [← e13]
  have H := H h12 e13
  have K15 : mxK h7 h12 := e13 ▸ KW_199
  have G14 : mxG h12 := mxK_G K15 G9
  refine wp_steps (i' := 24) (ls' := [some (.ref 381), some (.int i1), some (.int i2), some (.int i3), some (.int i4), some (.int (mx_i h 382 4))]) (st' := [.int 0, .int 3, .int (mx_i h 382 4), .ref 381]) (h' := h12) (P := True) 4 rfl rfl trivial ?_
  obtain ⟨o16, H⟩ := H
  refine wp_call (b := false) (y' := 199) (as := [.ref 381, .int (mx_i h 382 4), .int 3, .int 0]) (rest := []) (P := ((mxT 381).1 = mxRc 199 ∧ mxG h12)) rfl (by with_unfolding_all rfl) ⟨(congrArg Prod.fst sT_381), G14⟩ (Nat.le_of_ble_eq_true rfl) (sp_199 G14 o16 ?_)
  show mx_wp (d + 1) 220 25 [some (.ref 381), some (.int i1), some (.int i2), some (.int i3), some (.int i4), some (.int (mx_i h 382 4))] [] (W_199 h12 (mx_i h 382 4) (3 : Int32) (0 : Int32)) Q
  obtain ⟨h17, e18⟩ : ∃ z9, z9 = W_199 h12 (mx_i h 382 4) (3 : Int32) (0 : Int32) := ⟨_, rfl⟩
  rw [← e18]
  have H := H h17 e18
  have K20 : mxK h12 h17 := e18 ▸ KW_199
  have G19 : mxG h17 := mxK_G K20 G14
  refine wp_steps (i' := 29) (ls' := [some (.ref 381), some (.int i1), some (.int i2), some (.int i3), some (.int i4), some (.int (mx_i h 382 4))]) (st' := [.int i4, .int 4, .int (mx_i h 382 4), .ref 381]) (h' := h17) (P := True) 4 rfl rfl trivial ?_
  obtain ⟨o21, H⟩ := H
  refine wp_call (b := false) (y' := 199) (as := [.ref 381, .int (mx_i h 382 4), .int 4, .int i4]) (rest := []) (P := ((mxT 381).1 = mxRc 199 ∧ mxG h17)) rfl (by with_unfolding_all rfl) ⟨(congrArg Prod.fst sT_381), G19⟩ (Nat.le_of_ble_eq_true rfl) (sp_199 G19 o21 ?_)
  show mx_wp (d + 1) 220 30 [some (.ref 381), some (.int i1), some (.int i2), some (.int i3), some (.int i4), some (.int (mx_i h 382 4))] [] (W_199 h17 (mx_i h 382 4) (4 : Int32) i4) Q
  obtain ⟨h22, e23⟩ : ∃ z9, z9 = W_199 h17 (mx_i h 382 4) (4 : Int32) i4 := ⟨_, rfl⟩
  rw [← e23]
  have H := H h22 e23
  have K25 : mxK h17 h22 := e23 ▸ KW_199
  have G24 : mxG h22 := mxK_G K25 G19
  refine wp_steps (i' := 34) (ls' := [some (.ref 381), some (.int i1), some (.int i2), some (.int i3), some (.int i4), some (.int (mx_i h 382 4))]) (st' := [.int 0, .int 5, .int (mx_i h 382 4), .ref 381]) (h' := h22) (P := True) 4 rfl rfl trivial ?_
  obtain ⟨o26, H⟩ := H
  refine wp_call (b := false) (y' := 199) (as := [.ref 381, .int (mx_i h 382 4), .int 5, .int 0]) (rest := []) (P := ((mxT 381).1 = mxRc 199 ∧ mxG h22)) rfl (by with_unfolding_all rfl) ⟨(congrArg Prod.fst sT_381), G24⟩ (Nat.le_of_ble_eq_true rfl) (sp_199 G24 o26 ?_)
  show mx_wp (d + 1) 220 35 [some (.ref 381), some (.int i1), some (.int i2), some (.int i3), some (.int i4), some (.int (mx_i h 382 4))] [] (W_199 h22 (mx_i h 382 4) (5 : Int32) (0 : Int32)) Q
  obtain ⟨h27, e28⟩ : ∃ z9, z9 = W_199 h22 (mx_i h 382 4) (5 : Int32) (0 : Int32) := ⟨_, rfl⟩
  rw [← e28]
  have H := H h27 e28
  have K30 : mxK h22 h27 := e28 ▸ KW_199
  have G29 : mxG h27 := mxK_G K30 G24
  refine wp_steps (i' := 43) (ls' := [some (.ref 381), some (.int i1), some (.int i2), some (.int i3), some (.int i4), some (.int (mx_i h 382 4))]) (st' := []) (h' := mx_wi h27 382 4 ((mx_i h27 382 4) + 1)) (P := ((mxT 381).1 = 11 ∧ mxG h27) ∧ (((mxT 382).1 = 50 ∧ mxG h27) ∧ vp_in 4 (mxT 382).2) ∧ (((mxT 382).1 = 50 ∧ mxG h27) ∧ vp_in 4 (mxT 382).2) ∧ True) 8 rfl rfl ⟨⟨(congrArg Prod.fst sT_381), G29⟩, (cA sT_382 G29 (vpl rfl)), (cA sT_382 G29 (vpl rfl)), trivial⟩ ?_
  obtain ⟨h31, e32⟩ : ∃ z9, z9 = mx_wi h27 382 4 ((mx_i h27 382 4) + 1) := ⟨_, rfl⟩
  rw [← e32]
  have H := H h31 e32
  have G33 : mxG h31 := e32 ▸ mxG_wi G29
  exact wp_end (o := .inl none) (h' := h31) (P := True) rfl rfl trivial H
def W_220 (h : mxH) (i1 : Int32) (i2 : Int32) (i3 : Int32) (i4 : Int32) : mxH := (mx_wi (W_199 (W_199 (W_199 (W_199 (W_199 (W_199 h (mx_i h 382 4) (0 : Int32) i1) (mx_i h 382 4) (1 : Int32) i2) (mx_i h 382 4) (2 : Int32) i3) (mx_i h 382 4) (3 : Int32) (0 : Int32)) (mx_i h 382 4) (4 : Int32) i4) (mx_i h 382 4) (5 : Int32) (0 : Int32)) 382 4 ((mx_i (W_199 (W_199 (W_199 (W_199 (W_199 (W_199 h (mx_i h 382 4) (0 : Int32) i1) (mx_i h 382 4) (1 : Int32) i2) (mx_i h 382 4) (2 : Int32) i3) (mx_i h 382 4) (3 : Int32) (0 : Int32)) (mx_i h 382 4) (4 : Int32) i4) (mx_i h 382 4) (5 : Int32) (0 : Int32)) 382 4) + 1))
theorem KW_220 {h : mxH} {i1 : Int32} {i2 : Int32} {i3 : Int32} {i4 : Int32} : mxK h (W_220 h i1 i2 i3 i4) := by
  unfold W_220
  repeat' (first | with_reducible exact mxK_rfl | with_reducible exact mxK_wi | with_reducible exact mxK_wrow | with_reducible refine mxK_ite ?_ ?_ | with_reducible refine mxK_tr ?_ mxK_wi | with_reducible refine mxK_tr ?_ mxK_wrow | with_reducible exact KW_199 | with_reducible refine mxK_tr ?_ KW_199)
theorem sp_220 {d : Nat} {h : mxH} {Q : mxO → mxH → Prop} {i1 : Int32} {i2 : Int32} {i3 : Int32} {i4 : Int32} (G : mxG h)  (x0 : vp_in ((69 + (6 * (mx_i h 382 4))) + (0 : Int32)) 769) (x1 : vp_in ((69 + (6 * (mx_i h 382 4))) + (1 : Int32)) 769) (x2 : vp_in ((69 + (6 * (mx_i h 382 4))) + (2 : Int32)) 769) (x3 : vp_in ((69 + (6 * (mx_i h 382 4))) + (3 : Int32)) 769) (x4 : vp_in ((69 + (6 * (mx_i h 382 4))) + (4 : Int32)) 769) (x5 : vp_in ((69 + (6 * (mx_i h 382 4))) + (5 : Int32)) 769) (k : Q (.inl none) (W_220 h i1 i2 i3 i4)) : mx_wp (d + 1) 220 0 (mx_fr 220 [.ref 381, .int i1, .int i2, .int i3, .int i4]) [] h Q := by
  unfold W_220 at k
  have hob : (vp_in ((69 + (6 * (mx_i h 382 4))) + (0 : Int32)) 769 ∧ (vp_in ((69 + (6 * (mx_i h 382 4))) + (1 : Int32)) 769 ∧ (vp_in ((69 + (6 * (mx_i h 382 4))) + (2 : Int32)) 769 ∧ (vp_in ((69 + (6 * (mx_i h 382 4))) + (3 : Int32)) 769 ∧ (vp_in ((69 + (6 * (mx_i h 382 4))) + (4 : Int32)) 769 ∧ (vp_in ((69 + (6 * (mx_i h 382 4))) + (5 : Int32)) 769 ∧ True)))))) := ⟨x0, ⟨x1, ⟨x2, ⟨x3, ⟨x4, ⟨x5, trivial⟩⟩⟩⟩⟩⟩
  refine tr_220_0 G  ?_
  obtain ⟨q0, hob⟩ := hob
  refine ⟨q0, ?_⟩
  intro h2 eh2
  subst eh2
  obtain ⟨q0, hob⟩ := hob
  refine ⟨q0, ?_⟩
  intro h7 eh7
  subst eh7
  obtain ⟨q0, hob⟩ := hob
  refine ⟨q0, ?_⟩
  intro h12 eh12
  subst eh12
  obtain ⟨q0, hob⟩ := hob
  refine ⟨q0, ?_⟩
  intro h17 eh17
  subst eh17
  obtain ⟨q0, hob⟩ := hob
  refine ⟨q0, ?_⟩
  intro h22 eh22
  subst eh22
  obtain ⟨q0, hob⟩ := hob
  refine ⟨q0, ?_⟩
  intro h27 eh27
  subst eh27
  intro h31 eh31
  subst eh31
  exact k
/-! 223: StoneBacksModel.begins()V -/
set_option maxRecDepth 8000 in
theorem tr_223_0 {d : Nat} {h : mxH} {Q : mxO → mxH → Prop}  (G : mxG h)  (H : (∀ h1, h1 = mx_wi h 381 12 (-1) → (∀ h4, h4 = mx_wi h1 381 9 (-1) → (∀ h7, h7 = mx_wi h4 381 10 (mx_i h4 381 8) → (∀ h10, h10 = mx_wi h7 381 8 0 → (∀ h13, h13 = mx_wi h10 381 11 0 → (∀ h16, h16 = mx_wi h13 381 13 0 → Q (.inl none) h16))))))) : mx_wp d 223 0 (mx_fr 223 [.ref 381]) [] h Q := by
  show mx_wp d 223 0 [some (.ref 381)] [] h Q
  refine wp_steps (i' := 3) (ls' := [some (.ref 381)]) (st' := []) (h' := mx_wi h 381 12 (-1)) (P := ((mxT 381).1 = 11 ∧ mxG h) ∧ True) 3 rfl rfl ⟨⟨(congrArg Prod.fst sT_381), G⟩, trivial⟩ ?_
  obtain ⟨h1, e2⟩ : ∃ z9, z9 = mx_wi h 381 12 (-1) := ⟨_, rfl⟩
  rw [← e2]
  have H := H h1 e2
  have G3 : mxG h1 := e2 ▸ mxG_wi G
  refine wp_steps (i' := 6) (ls' := [some (.ref 381)]) (st' := []) (h' := mx_wi h1 381 9 (-1)) (P := ((mxT 381).1 = 11 ∧ mxG h1) ∧ True) 3 rfl rfl ⟨⟨(congrArg Prod.fst sT_381), G3⟩, trivial⟩ ?_
  obtain ⟨h4, e5⟩ : ∃ z9, z9 = mx_wi h1 381 9 (-1) := ⟨_, rfl⟩
  rw [← e5]
  have H := H h4 e5
  have G6 : mxG h4 := e5 ▸ mxG_wi G3
  refine wp_steps (i' := 10) (ls' := [some (.ref 381)]) (st' := []) (h' := mx_wi h4 381 10 (mx_i h4 381 8)) (P := ((mxT 381).1 = 11 ∧ mxG h4) ∧ ((mxT 381).1 = 11 ∧ mxG h4) ∧ True) 4 rfl rfl ⟨⟨(congrArg Prod.fst sT_381), G6⟩, ⟨(congrArg Prod.fst sT_381), G6⟩, trivial⟩ ?_
  obtain ⟨h7, e8⟩ : ∃ z9, z9 = mx_wi h4 381 10 (mx_i h4 381 8) := ⟨_, rfl⟩
  rw [← e8]
  have H := H h7 e8
  have G9 : mxG h7 := e8 ▸ mxG_wi G6
  refine wp_steps (i' := 13) (ls' := [some (.ref 381)]) (st' := []) (h' := mx_wi h7 381 8 0) (P := ((mxT 381).1 = 11 ∧ mxG h7) ∧ True) 3 rfl rfl ⟨⟨(congrArg Prod.fst sT_381), G9⟩, trivial⟩ ?_
  obtain ⟨h10, e11⟩ : ∃ z9, z9 = mx_wi h7 381 8 0 := ⟨_, rfl⟩
  rw [← e11]
  have H := H h10 e11
  have G12 : mxG h10 := e11 ▸ mxG_wi G9
  refine wp_steps (i' := 16) (ls' := [some (.ref 381)]) (st' := []) (h' := mx_wi h10 381 11 0) (P := ((mxT 381).1 = 11 ∧ mxG h10) ∧ True) 3 rfl rfl ⟨⟨(congrArg Prod.fst sT_381), G12⟩, trivial⟩ ?_
  obtain ⟨h13, e14⟩ : ∃ z9, z9 = mx_wi h10 381 11 0 := ⟨_, rfl⟩
  rw [← e14]
  have H := H h13 e14
  have G15 : mxG h13 := e14 ▸ mxG_wi G12
  refine wp_steps (i' := 19) (ls' := [some (.ref 381)]) (st' := []) (h' := mx_wi h13 381 13 0) (P := ((mxT 381).1 = 11 ∧ mxG h13) ∧ True) 3 rfl rfl ⟨⟨(congrArg Prod.fst sT_381), G15⟩, trivial⟩ ?_
  obtain ⟨h16, e17⟩ : ∃ z9, z9 = mx_wi h13 381 13 0 := ⟨_, rfl⟩
  rw [← e17]
  have H := H h16 e17
  have G18 : mxG h16 := e17 ▸ mxG_wi G15
  exact wp_end (o := .inl none) (h' := h16) (P := True) rfl rfl trivial H
def W_223 (h : mxH) : mxH := (mx_wi (mx_wi (mx_wi (mx_wi (mx_wi (mx_wi h 381 12 (-1)) 381 9 (-1)) 381 10 (mx_i (mx_wi (mx_wi h 381 12 (-1)) 381 9 (-1)) 381 8)) 381 8 0) 381 11 0) 381 13 0)
theorem KW_223 {h : mxH} : mxK h (W_223 h) := by
  unfold W_223
  repeat' (first | with_reducible exact mxK_rfl | with_reducible exact mxK_wi | with_reducible exact mxK_wrow | with_reducible refine mxK_ite ?_ ?_ | with_reducible refine mxK_tr ?_ mxK_wi | with_reducible refine mxK_tr ?_ mxK_wrow)
theorem sp_223 {d : Nat} {h : mxH} {Q : mxO → mxH → Prop}  (G : mxG h)  (k : Q (.inl none) (W_223 h)) : mx_wp d 223 0 (mx_fr 223 [.ref 381]) [] h Q := by
  unfold W_223 at k
  refine tr_223_0 G  ?_
  intro h1 eh1
  subst eh1
  intro h4 eh4
  subst eh4
  intro h7 eh7
  subst eh7
  intro h10 eh10
  subst eh10
  intro h13 eh13
  subst eh13
  intro h16 eh16
  subst eh16
  exact k
/-! 225: StoneBacksModel.putsAside()V -/
def H_225_2 (d : Nat) (h : mxH) (i1 : Int32) (Q : mxO → mxH → Prop) : Prop := mx_wp d 225 2 [some (.ref 381), some (.int i1)] [] h Q
set_option maxRecDepth 8000 in
theorem tr_225_0 {d : Nat} {h : mxH} {Q : mxO → mxH → Prop}  (G : mxG h)  (H : H_225_2 d h 0 Q) : mx_wp d 225 0 (mx_fr 225 [.ref 381]) [] h Q := by
  show mx_wp d 225 0 [some (.ref 381), none] [] h Q
  refine wp_steps (i' := 2) (ls' := [some (.ref 381), some (.int 0)]) (st' := []) (h' := h) (P := True) 2 rfl rfl trivial ?_
  exact H 
set_option maxRecDepth 8000 in
theorem tr_225_2 {d : Nat} {h : mxH} {Q : mxO → mxH → Prop}  {i1 : Int32} (G : mxG h)  (H : ((i1 < 369 → (vp_in i1 769 ∧ vp_in i1 369 ∧ (∀ h4, h4 = mx_wi h 384 i1.toNatClampNeg (mx_i h 382 i1.toNatClampNeg) → H_225_2 d h4 (i1 + 1) Q))) ∧ (¬ i1 < 369 → Q (.inl none) h))) : H_225_2 d h i1 Q := by
  show mx_wp d 225 2 [some (.ref 381), some (.int i1)] [] h Q
  refine wp_steps (i' := 4) (ls' := [some (.ref 381), some (.int i1)]) (st' := [.int 369, .int i1]) (h' := h) (P := True) 2 rfl rfl trivial ?_
  refine wp_br (P := True) (c := 369 ≤ i1) (t := 15) (st' := []) rfl rfl trivial (fun c1 => ?_) (fun c1 => ?_)
  · have c1 := Int32.not_lt.mpr c1
    have H := H.2 c1
    exact wp_end (o := .inl none) (h' := h) (P := True) rfl rfl trivial H
  · have c1 := Int32.not_le.mp c1
    have H := H.1 c1
    obtain ⟨o2, o3, H⟩ := H
    refine wp_steps (i' := 13) (ls' := [some (.ref 381), some (.int i1)]) (st' := []) (h' := mx_wi h 384 i1.toNatClampNeg (mx_i h 382 i1.toNatClampNeg)) (P := ((mxT 381).1 = 11 ∧ mxG h) ∧ ((mxT 381).1 = 11 ∧ mxG h) ∧ (((mxT 382).1 = 50 ∧ mxG h) ∧ vp_in i1 (mxT 382).2) ∧ (((mxT 384).1 = 50 ∧ mxG h) ∧ vp_in i1 (mxT 384).2) ∧ True) 8 rfl rfl ⟨⟨(congrArg Prod.fst sT_381), G⟩, ⟨(congrArg Prod.fst sT_381), G⟩, (cA sT_382 G o2), (cA sT_384 G o3), trivial⟩ ?_
    obtain ⟨h4, e5⟩ : ∃ z9, z9 = mx_wi h 384 i1.toNatClampNeg (mx_i h 382 i1.toNatClampNeg) := ⟨_, rfl⟩
    rw [← e5]
    have H := H h4 e5
    have G6 : mxG h4 := e5 ▸ mxG_wi G
    refine wp_steps (i' := 14) (ls' := [some (.ref 381), some (.int (i1 + 1))]) (st' := []) (h' := h4) (P := True) 1 rfl rfl trivial ?_
    refine wp_J (j := 2) (st' := []) rfl rfl ?_
    exact H 
def F_225_2 (z : Nat) (s : mxH) : mxH := (mx_wi s 384 (nI z).toNatClampNeg (mx_i s 382 (nI z).toNatClampNeg))
theorem K_225_2 (z : Nat) (s : mxH) : mxK s (F_225_2 z s) := by
  unfold F_225_2
  (try simp only []); repeat' (first | with_reducible exact mxK_rfl | with_reducible exact mxK_wi | with_reducible exact mxK_wrow | with_reducible refine mxK_ite ?_ ?_ | with_reducible refine mxK_tr ?_ mxK_wi | with_reducible refine mxK_tr ?_ mxK_wrow)
theorem lp_225_2 {d : Nat} {Q : mxO → mxH → Prop} {s0 : mxH} {n : Nat} (z0 : Nat) (G : mxG s0)  (hB : ∀ z, z0 ≤ z → z ≤ n → (369 : Int32) = nI n) (hn : n < 2147483648) (hz : z0 ≤ n) (ob : ∀ z, z0 ≤ z → z < n → (vp_in (nI z) 769 ∧ vp_in (nI z) 369 ∧ True)) (k : Q (.inl none) (fz F_225_2 z0 n s0)) : H_225_2 d s0 (nI z0) Q := by
  have L : ∀ (j z : Nat), z0 ≤ z → z + j = n → H_225_2 d (fz F_225_2 z0 z s0) (nI z) Q := by
    intro j
    induction j with
    | zero =>
      intro z hz0 hzn
      have hzn : z = n := by omega
      subst hzn
      have Gz : mxG (fz F_225_2 z0 z s0) := mxK_G (mxK_fz (g := fun s => s) (fun z s => K_225_2 z s) z0 z s0) G
      have hBz := hB z hz0 (by omega)
      refine tr_225_2 Gz  ⟨fun c9 => absurd (hBz ▸ c9) Int32.lt_irrefl, fun c9 => k⟩
    | succ j ih =>
      intro z hz0 hzn
      have hih := ih (z + 1) (by omega) (by omega)
      rw [nI_succ, fz_s hz0] at hih
      have Gz : mxG (fz F_225_2 z0 z s0) := mxK_G (mxK_fz (g := fun s => s) (fun z s => K_225_2 z s) z0 z s0) G
      have hBz := hB z hz0 (by omega)
      have hob := ob z hz0 (by omega)
      refine tr_225_2 Gz  ⟨fun c9 => ?_, fun c9 => absurd (hBz.symm ▸ nI_lt (by omega) hn) c9⟩
      obtain ⟨q0, q1, hob⟩ := hob
      refine ⟨q0, q1, ?_⟩
      intro h4 eh4
      subst eh4
      exact hih
  have L0 := L (n - z0) z0 (Nat.le_refl _) (by omega)
  simp only [fz_0] at L0
  exact L0
def W_225 (h : mxH) : mxH := (fo F_225_2 369 h)
theorem KW_225 {h : mxH} : mxK h (W_225 h) := by
  unfold W_225
  repeat' (first | with_reducible exact mxK_rfl | with_reducible exact mxK_wi | with_reducible exact mxK_wrow | with_reducible refine mxK_ite ?_ ?_ | with_reducible refine mxK_tr ?_ mxK_wi | with_reducible refine mxK_tr ?_ mxK_wrow | exact mxK_fo (g := fun s => s) (fun z s => K_225_2 z s) _ _ | refine mxK_tr ?_ (mxK_fo (g := fun s => s) (fun z s => K_225_2 z s) _ _))
theorem sp_225 {d : Nat} {h : mxH} {Q : mxO → mxH → Prop}  (G : mxG h)  (k : Q (.inl none) (W_225 h)) : mx_wp d 225 0 (mx_fr 225 [.ref 381]) [] h Q := by
  unfold W_225 at k
  obtain ⟨n, hn, hB, hn2⟩ : ∃ n : Nat, n ≤ 369 ∧ (369 : Int32) = nI n ∧ n = 369 := ⟨369, Nat.le_refl _, rfl, rfl⟩
  rw [← hn2] at k
  refine tr_225_0 G  ?_
  refine lp_225_2 (s0 := h) 0 G  (fun _ _ _ => hB) (by omega) (Nat.zero_le _) (fun z _ hz => ⟨vp_in_nI (by omega) (by decide), vp_in_nI (by omega) (by decide), trivial⟩) ?_
  simp only [fz_fo]
  exact k
/-! 226: StoneBacksModel.comesBack()V -/
def H_226_2 (d : Nat) (h : mxH) (i1 : Int32) (Q : mxO → mxH → Prop) : Prop := mx_wp d 226 2 [some (.ref 381), some (.int i1)] [] h Q
set_option maxRecDepth 8000 in
theorem tr_226_0 {d : Nat} {h : mxH} {Q : mxO → mxH → Prop}  (G : mxG h)  (H : H_226_2 d h 0 Q) : mx_wp d 226 0 (mx_fr 226 [.ref 381]) [] h Q := by
  show mx_wp d 226 0 [some (.ref 381), none] [] h Q
  refine wp_steps (i' := 2) (ls' := [some (.ref 381), some (.int 0)]) (st' := []) (h' := h) (P := True) 2 rfl rfl trivial ?_
  exact H 
set_option maxRecDepth 8000 in
theorem tr_226_2 {d : Nat} {h : mxH} {Q : mxO → mxH → Prop}  {i1 : Int32} (G : mxG h)  (H : ((i1 < 369 → (vp_in i1 369 ∧ vp_in i1 769 ∧ (∀ h4, h4 = mx_wi h 382 i1.toNatClampNeg (mx_i h 384 i1.toNatClampNeg) → H_226_2 d h4 (i1 + 1) Q))) ∧ (¬ i1 < 369 → Q (.inl none) h))) : H_226_2 d h i1 Q := by
  show mx_wp d 226 2 [some (.ref 381), some (.int i1)] [] h Q
  refine wp_steps (i' := 4) (ls' := [some (.ref 381), some (.int i1)]) (st' := [.int 369, .int i1]) (h' := h) (P := True) 2 rfl rfl trivial ?_
  refine wp_br (P := True) (c := 369 ≤ i1) (t := 15) (st' := []) rfl rfl trivial (fun c1 => ?_) (fun c1 => ?_)
  · have c1 := Int32.not_lt.mpr c1
    have H := H.2 c1
    exact wp_end (o := .inl none) (h' := h) (P := True) rfl rfl trivial H
  · have c1 := Int32.not_le.mp c1
    have H := H.1 c1
    obtain ⟨o2, o3, H⟩ := H
    refine wp_steps (i' := 13) (ls' := [some (.ref 381), some (.int i1)]) (st' := []) (h' := mx_wi h 382 i1.toNatClampNeg (mx_i h 384 i1.toNatClampNeg)) (P := ((mxT 381).1 = 11 ∧ mxG h) ∧ ((mxT 381).1 = 11 ∧ mxG h) ∧ (((mxT 384).1 = 50 ∧ mxG h) ∧ vp_in i1 (mxT 384).2) ∧ (((mxT 382).1 = 50 ∧ mxG h) ∧ vp_in i1 (mxT 382).2) ∧ True) 8 rfl rfl ⟨⟨(congrArg Prod.fst sT_381), G⟩, ⟨(congrArg Prod.fst sT_381), G⟩, (cA sT_384 G o2), (cA sT_382 G o3), trivial⟩ ?_
    obtain ⟨h4, e5⟩ : ∃ z9, z9 = mx_wi h 382 i1.toNatClampNeg (mx_i h 384 i1.toNatClampNeg) := ⟨_, rfl⟩
    rw [← e5]
    have H := H h4 e5
    have G6 : mxG h4 := e5 ▸ mxG_wi G
    refine wp_steps (i' := 14) (ls' := [some (.ref 381), some (.int (i1 + 1))]) (st' := []) (h' := h4) (P := True) 1 rfl rfl trivial ?_
    refine wp_J (j := 2) (st' := []) rfl rfl ?_
    exact H 
def F_226_2 (z : Nat) (s : mxH) : mxH := (mx_wi s 382 (nI z).toNatClampNeg (mx_i s 384 (nI z).toNatClampNeg))
theorem K_226_2 (z : Nat) (s : mxH) : mxK s (F_226_2 z s) := by
  unfold F_226_2
  (try simp only []); repeat' (first | with_reducible exact mxK_rfl | with_reducible exact mxK_wi | with_reducible exact mxK_wrow | with_reducible refine mxK_ite ?_ ?_ | with_reducible refine mxK_tr ?_ mxK_wi | with_reducible refine mxK_tr ?_ mxK_wrow)
theorem lp_226_2 {d : Nat} {Q : mxO → mxH → Prop} {s0 : mxH} {n : Nat} (z0 : Nat) (G : mxG s0)  (hB : ∀ z, z0 ≤ z → z ≤ n → (369 : Int32) = nI n) (hn : n < 2147483648) (hz : z0 ≤ n) (ob : ∀ z, z0 ≤ z → z < n → (vp_in (nI z) 369 ∧ vp_in (nI z) 769 ∧ True)) (k : Q (.inl none) (fz F_226_2 z0 n s0)) : H_226_2 d s0 (nI z0) Q := by
  have L : ∀ (j z : Nat), z0 ≤ z → z + j = n → H_226_2 d (fz F_226_2 z0 z s0) (nI z) Q := by
    intro j
    induction j with
    | zero =>
      intro z hz0 hzn
      have hzn : z = n := by omega
      subst hzn
      have Gz : mxG (fz F_226_2 z0 z s0) := mxK_G (mxK_fz (g := fun s => s) (fun z s => K_226_2 z s) z0 z s0) G
      have hBz := hB z hz0 (by omega)
      refine tr_226_2 Gz  ⟨fun c9 => absurd (hBz ▸ c9) Int32.lt_irrefl, fun c9 => k⟩
    | succ j ih =>
      intro z hz0 hzn
      have hih := ih (z + 1) (by omega) (by omega)
      rw [nI_succ, fz_s hz0] at hih
      have Gz : mxG (fz F_226_2 z0 z s0) := mxK_G (mxK_fz (g := fun s => s) (fun z s => K_226_2 z s) z0 z s0) G
      have hBz := hB z hz0 (by omega)
      have hob := ob z hz0 (by omega)
      refine tr_226_2 Gz  ⟨fun c9 => ?_, fun c9 => absurd (hBz.symm ▸ nI_lt (by omega) hn) c9⟩
      obtain ⟨q0, q1, hob⟩ := hob
      refine ⟨q0, q1, ?_⟩
      intro h4 eh4
      subst eh4
      exact hih
  have L0 := L (n - z0) z0 (Nat.le_refl _) (by omega)
  simp only [fz_0] at L0
  exact L0
def W_226 (h : mxH) : mxH := (fo F_226_2 369 h)
theorem KW_226 {h : mxH} : mxK h (W_226 h) := by
  unfold W_226
  repeat' (first | with_reducible exact mxK_rfl | with_reducible exact mxK_wi | with_reducible exact mxK_wrow | with_reducible refine mxK_ite ?_ ?_ | with_reducible refine mxK_tr ?_ mxK_wi | with_reducible refine mxK_tr ?_ mxK_wrow | exact mxK_fo (g := fun s => s) (fun z s => K_226_2 z s) _ _ | refine mxK_tr ?_ (mxK_fo (g := fun s => s) (fun z s => K_226_2 z s) _ _))
theorem sp_226 {d : Nat} {h : mxH} {Q : mxO → mxH → Prop}  (G : mxG h)  (k : Q (.inl none) (W_226 h)) : mx_wp d 226 0 (mx_fr 226 [.ref 381]) [] h Q := by
  unfold W_226 at k
  obtain ⟨n, hn, hB, hn2⟩ : ∃ n : Nat, n ≤ 369 ∧ (369 : Int32) = nI n ∧ n = 369 := ⟨369, Nat.le_refl _, rfl, rfl⟩
  rw [← hn2] at k
  refine tr_226_0 G  ?_
  refine lp_226_2 (s0 := h) 0 G  (fun _ _ _ => hB) (by omega) (Nat.zero_le _) (fun z _ hz => ⟨vp_in_nI (by omega) (by decide), vp_in_nI (by omega) (by decide), trivial⟩) ?_
  simp only [fz_fo]
  exact k
/-! 236: StoneBacksModel.fault()I -/
set_option maxRecDepth 8000 in
theorem tr_236_0 {d : Nat} {h : mxH} {Q : mxO → mxH → Prop}  (G : mxG h)  (H : (∀ h1, h1 = mx_wi h 381 0 0 → Q (.inl (some (.int (mx_i h1 381 12)))) h1)) : mx_wp d 236 0 (mx_fr 236 [.ref 381]) [] h Q := by
  show mx_wp d 236 0 [some (.ref 381)] [] h Q
  refine wp_steps (i' := 3) (ls' := [some (.ref 381)]) (st' := []) (h' := mx_wi h 381 0 0) (P := ((mxT 381).1 = 11 ∧ mxG h) ∧ True) 3 rfl rfl ⟨⟨(congrArg Prod.fst sT_381), G⟩, trivial⟩ ?_
  obtain ⟨h1, e2⟩ : ∃ z9, z9 = mx_wi h 381 0 0 := ⟨_, rfl⟩
  rw [← e2]
  have H := H h1 e2
  have G3 : mxG h1 := e2 ▸ mxG_wi G
  refine wp_steps (i' := 5) (ls' := [some (.ref 381)]) (st' := [.int (mx_i h1 381 12)]) (h' := h1) (P := ((mxT 381).1 = 11 ∧ mxG h1) ∧ True) 2 rfl rfl ⟨⟨(congrArg Prod.fst sT_381), G3⟩, trivial⟩ ?_
  exact wp_end (o := .inl (some (.int (mx_i h1 381 12)))) (h' := h1) (P := True) rfl rfl trivial H
def V_236 (h : mxH) : Int32 := (mx_i (mx_wi h 381 0 0) 381 12)
def W_236 (h : mxH) : mxH := (mx_wi h 381 0 0)
theorem KW_236 {h : mxH} : mxK h (W_236 h) := by
  unfold W_236
  repeat' (first | with_reducible exact mxK_rfl | with_reducible exact mxK_wi | with_reducible exact mxK_wrow | with_reducible refine mxK_ite ?_ ?_ | with_reducible refine mxK_tr ?_ mxK_wi | with_reducible refine mxK_tr ?_ mxK_wrow)
theorem sp_236 {d : Nat} {h : mxH} {Q : mxO → mxH → Prop}  (G : mxG h)  (k : Q (.inl (some (.int (V_236 h)))) (W_236 h)) : mx_wp d 236 0 (mx_fr 236 [.ref 381]) [] h Q := by
  unfold V_236 W_236 at k
  refine tr_236_0 G  ?_
  intro h1 eh1
  subst eh1
  exact k
/-! 238: StoneBacksModel.draw(I)I -/
set_option maxRecDepth 8000 in
theorem tr_238_0 {d : Nat} {h : mxH} {Q : mxO → mxH → Prop} {i1 : Int32} (G : mxG h)  (H : (∀ h1, h1 = mx_wi h 382 8 ((1103515245 * (mx_i h 382 8)) + 12345) → (¬ i1 = 0 ∧ Q (.inl (some (.int ((((mx_i h1 382 8).toUInt32 >>> ((16 : Int32).toUInt32 &&& Int32.toUInt32 31)).toInt32 &&& 32767) - (((mx_i h1 382 8).toUInt32 >>> ((16 : Int32).toUInt32 &&& Int32.toUInt32 31)).toInt32 &&& 32767) / i1 * i1)))) h1))) : mx_wp d 238 0 (mx_fr 238 [.ref 381, .int i1]) [] h Q := by
  show mx_wp d 238 0 [some (.ref 381), some (.int i1)] [] h Q
  refine wp_steps (i' := 12) (ls' := [some (.ref 381), some (.int i1)]) (st' := []) (h' := mx_wi h 382 8 ((1103515245 * (mx_i h 382 8)) + 12345)) (P := ((mxT 381).1 = 11 ∧ mxG h) ∧ ((mxT 381).1 = 11 ∧ mxG h) ∧ (((mxT 382).1 = 50 ∧ mxG h) ∧ vp_in 8 (mxT 382).2) ∧ (((mxT 382).1 = 50 ∧ mxG h) ∧ vp_in 8 (mxT 382).2) ∧ True) 12 rfl rfl ⟨⟨(congrArg Prod.fst sT_381), G⟩, ⟨(congrArg Prod.fst sT_381), G⟩, (cA sT_382 G (vpl rfl)), (cA sT_382 G (vpl rfl)), trivial⟩ ?_
  obtain ⟨h1, e2⟩ : ∃ z9, z9 = mx_wi h 382 8 ((1103515245 * (mx_i h 382 8)) + 12345) := ⟨_, rfl⟩
  rw [← e2]
  have H := H h1 e2
  have G3 : mxG h1 := e2 ▸ mxG_wi G
  obtain ⟨o4, H⟩ := H
  refine wp_steps (i' := 22) (ls' := [some (.ref 381), some (.int i1)]) (st' := [.int ((((mx_i h1 382 8).toUInt32 >>> ((16 : Int32).toUInt32 &&& Int32.toUInt32 31)).toInt32 &&& 32767) - (((mx_i h1 382 8).toUInt32 >>> ((16 : Int32).toUInt32 &&& Int32.toUInt32 31)).toInt32 &&& 32767) / i1 * i1)]) (h' := h1) (P := ((mxT 381).1 = 11 ∧ mxG h1) ∧ (((mxT 382).1 = 50 ∧ mxG h1) ∧ vp_in 8 (mxT 382).2) ∧ (¬ i1 = 0) ∧ True) 10 rfl rfl ⟨⟨(congrArg Prod.fst sT_381), G3⟩, (cA sT_382 G3 (vpl rfl)), o4, trivial⟩ ?_
  exact wp_end (o := .inl (some (.int ((((mx_i h1 382 8).toUInt32 >>> ((16 : Int32).toUInt32 &&& Int32.toUInt32 31)).toInt32 &&& 32767) - (((mx_i h1 382 8).toUInt32 >>> ((16 : Int32).toUInt32 &&& Int32.toUInt32 31)).toInt32 &&& 32767) / i1 * i1)))) (h' := h1) (P := True) rfl rfl trivial H
def V_238 (h : mxH) (i1 : Int32) : Int32 := ((((mx_i (mx_wi h 382 8 ((1103515245 * (mx_i h 382 8)) + 12345)) 382 8).toUInt32 >>> ((16 : Int32).toUInt32 &&& Int32.toUInt32 31)).toInt32 &&& 32767) - (((mx_i (mx_wi h 382 8 ((1103515245 * (mx_i h 382 8)) + 12345)) 382 8).toUInt32 >>> ((16 : Int32).toUInt32 &&& Int32.toUInt32 31)).toInt32 &&& 32767) / i1 * i1)
def W_238 (h : mxH) (i1 : Int32) : mxH := (mx_wi h 382 8 ((1103515245 * (mx_i h 382 8)) + 12345))
theorem KW_238 {h : mxH} {i1 : Int32} : mxK h (W_238 h i1) := by
  unfold W_238
  repeat' (first | with_reducible exact mxK_rfl | with_reducible exact mxK_wi | with_reducible exact mxK_wrow | with_reducible refine mxK_ite ?_ ?_ | with_reducible refine mxK_tr ?_ mxK_wi | with_reducible refine mxK_tr ?_ mxK_wrow)
theorem sp_238 {d : Nat} {h : mxH} {Q : mxO → mxH → Prop} {i1 : Int32} (G : mxG h)  (x0 : ¬ i1 = 0) (k : Q (.inl (some (.int (V_238 h i1)))) (W_238 h i1)) : mx_wp d 238 0 (mx_fr 238 [.ref 381, .int i1]) [] h Q := by
  unfold V_238 W_238 at k
  have hob : (¬ i1 = 0 ∧ True) := ⟨x0, trivial⟩
  refine tr_238_0 G  ?_
  intro h1 eh1
  subst eh1
  obtain ⟨q0, hob⟩ := hob
  refine ⟨q0, ?_⟩
  exact k
/-! 239: StoneBacksModel.mayGo(III)Z -/
set_option maxRecDepth 8000 in
theorem tr_239_0 {d : Nat} {h : mxH} {Q : mxO → mxH → Prop} {i1 : Int32} {i2 : Int32} {i3 : Int32} (G : mxG h)  (H : (∀ (v1 : Int32), v1 = (if (i2 + i3) = 11 then (if (mx_i h 382 6) < i1 then 0 else 1) else 1) → Q (.inl (some (.int v1))) h)) : mx_wp d 239 0 (mx_fr 239 [.ref 381, .int i1, .int i2, .int i3]) [] h Q := by
  show mx_wp d 239 0 [some (.ref 381), some (.int i1), some (.int i2), some (.int i3)] [] h Q
  refine wp_steps (i' := 4) (ls' := [some (.ref 381), some (.int i1), some (.int i2), some (.int i3)]) (st' := [.int 11, .int (i2 + i3)]) (h' := h) (P := True) 4 rfl rfl trivial ?_
  have J : ∀ (v1 : Int32) (ev1 : v1 = (if (i2 + i3) = 11 then (if (mx_i h 382 6) < i1 then 0 else 1) else 1)), mx_wp d 239 14 [some (.ref 381), some (.int i1), some (.int i2), some (.int i3)] [.int v1] h Q := by
    intro v1 ev1
    have H := H v1 ev1
    exact wp_end (o := .inl (some (.int v1))) (h' := h) (P := (v1 = 0 ∨ v1 = 1)) rfl rfl (b01 ev1 (by repeat' (first | exact Or.inl rfl | exact Or.inr rfl | split))) H
  refine wp_br (P := True) (c := ¬ (i2 + i3) = 11) (t := 11) (st' := []) rfl rfl trivial (fun c2 => ?_) (fun c2 => ?_)
  · skip
    refine wp_steps (i' := 12) (ls' := [some (.ref 381), some (.int i1), some (.int i2), some (.int i3)]) (st' := [.int 1]) (h' := h) (P := True) 1 rfl rfl trivial ?_
    refine wp_J (j := 14) (st' := [.int 1]) rfl rfl ?_
    exact J _ (by rw [if_neg c2])
  · have c2 := Decidable.of_not_not c2
    refine wp_steps (i' := 10) (ls' := [some (.ref 381), some (.int i1), some (.int i2), some (.int i3)]) (st' := [.int (mx_i h 382 6), .int i1]) (h' := h) (P := ((mxT 381).1 = 11 ∧ mxG h) ∧ (((mxT 382).1 = 50 ∧ mxG h) ∧ vp_in 6 (mxT 382).2) ∧ True) 5 rfl rfl ⟨⟨(congrArg Prod.fst sT_381), G⟩, (cA sT_382 G (vpl rfl)), trivial⟩ ?_
    refine wp_br (P := True) (c := (mx_i h 382 6) < i1) (t := 13) (st' := []) rfl rfl trivial (fun c3 => ?_) (fun c3 => ?_)
    · skip
      refine wp_steps (i' := 14) (ls' := [some (.ref 381), some (.int i1), some (.int i2), some (.int i3)]) (st' := [.int 0]) (h' := h) (P := True) 1 rfl rfl trivial ?_
      exact J _ (by rw [if_pos c2, if_pos c3])
    · skip
      refine wp_steps (i' := 12) (ls' := [some (.ref 381), some (.int i1), some (.int i2), some (.int i3)]) (st' := [.int 1]) (h' := h) (P := True) 1 rfl rfl trivial ?_
      refine wp_J (j := 14) (st' := [.int 1]) rfl rfl ?_
      exact J _ (by rw [if_pos c2, if_neg c3])
def V_239 (h : mxH) (i1 : Int32) (i2 : Int32) (i3 : Int32) : Int32 := ((if (i2 + i3) = 11 then (if (mx_i h 382 6) < i1 then 0 else 1) else 1) : Int32)
theorem sp_239 {d : Nat} {h : mxH} {Q : mxO → mxH → Prop} {i1 : Int32} {i2 : Int32} {i3 : Int32} (G : mxG h)  (k : Q (.inl (some (.int (V_239 h i1 i2 i3)))) h) : mx_wp d 239 0 (mx_fr 239 [.ref 381, .int i1, .int i2, .int i3]) [] h Q := by
  unfold V_239 at k
  refine tr_239_0 G  ?_
  intro v1 ev1
  subst ev1
  exact k
/-! 242: StoneBacksModel.dawns()V -/
def H_242_2 (d : Nat) (h : mxH) (i1 : Int32) (Q : mxO → mxH → Prop) : Prop := mx_wp d 242 2 [some (.ref 381), some (.int i1)] [] h Q
def H_242_30 (d : Nat) (h : mxH) (i1 : Int32) (Q : mxO → mxH → Prop) : Prop := mx_wp d 242 30 [some (.ref 381), some (.int i1)] [] h Q
set_option maxRecDepth 8000 in
theorem tr_242_0 {d : Nat} {h : mxH} {Q : mxO → mxH → Prop}  (G : mxG h)  (H : H_242_2 (d + 1) h 0 Q) : mx_wp (d + 1) 242 0 (mx_fr 242 [.ref 381]) [] h Q := by
  show mx_wp (d + 1) 242 0 [some (.ref 381), none] [] h Q
  refine wp_steps (i' := 2) (ls' := [some (.ref 381), some (.int 0)]) (st' := []) (h' := h) (P := True) 2 rfl rfl trivial ?_
  exact H 
set_option maxRecDepth 8000 in
theorem tr_242_2 {d : Nat} {h : mxH} {Q : mxO → mxH → Prop}  {i1 : Int32} (G : mxG h)  (H : ((i1 < (mx_i h 382 4) → (vp_in ((69 + (6 * i1)) + (3 : Int32)) 769 ∧ (((V_198 h i1 (3 : Int32)) < 2 → (vp_in ((69 + (6 * i1)) + (2 : Int32)) 769 ∧ (∀ h5, h5 = W_199 h i1 (2 : Int32) (V_192 h (40 : Int32) ((V_198 h i1 (2 : Int32)) + 1)) → H_242_2 (d + 1) h5 (i1 + 1) Q))) ∧ (¬ (V_198 h i1 (3 : Int32)) < 2 → H_242_2 (d + 1) h (i1 + 1) Q)))) ∧ (¬ i1 < (mx_i h 382 4) → H_242_30 (d + 1) h 0 Q))) : H_242_2 (d + 1) h i1 Q := by
  show mx_wp (d + 1) 242 2 [some (.ref 381), some (.int i1)] [] h Q
  refine wp_steps (i' := 7) (ls' := [some (.ref 381), some (.int i1)]) (st' := [.int (mx_i h 382 4), .int i1]) (h' := h) (P := ((mxT 381).1 = 11 ∧ mxG h) ∧ (((mxT 382).1 = 50 ∧ mxG h) ∧ vp_in 4 (mxT 382).2) ∧ True) 5 rfl rfl ⟨⟨(congrArg Prod.fst sT_381), G⟩, (cA sT_382 G (vpl rfl)), trivial⟩ ?_
  refine wp_br (P := True) (c := (mx_i h 382 4) ≤ i1) (t := 28) (st' := []) rfl rfl trivial (fun c1 => ?_) (fun c1 => ?_)
  · have c1 := Int32.not_lt.mpr c1
    have H := H.2 c1
    refine wp_steps (i' := 30) (ls' := [some (.ref 381), some (.int 0)]) (st' := []) (h' := h) (P := True) 2 rfl rfl trivial ?_
    exact H 
  · have c1 := Int32.not_le.mp c1
    have H := H.1 c1
    refine wp_steps (i' := 11) (ls' := [some (.ref 381), some (.int i1)]) (st' := [.int 3, .int i1, .ref 381]) (h' := h) (P := True) 3 rfl rfl trivial ?_
    obtain ⟨o2, H⟩ := H
    refine wp_call (b := false) (y' := 198) (as := [.ref 381, .int i1, .int 3]) (rest := []) (P := ((mxT 381).1 = mxRc 198 ∧ mxG h)) rfl (by with_unfolding_all rfl) ⟨(congrArg Prod.fst sT_381), G⟩ (Nat.le_of_ble_eq_true rfl) (sp_198 G o2 ?_)
    show mx_wp (d + 1) 242 12 [some (.ref 381), some (.int i1)] [.int (V_198 h i1 (3 : Int32))] h Q
    refine wp_steps (i' := 13) (ls' := [some (.ref 381), some (.int i1)]) (st' := [.int 2, .int (V_198 h i1 (3 : Int32))]) (h' := h) (P := True) 1 rfl rfl trivial ?_
    refine wp_br (P := True) (c := 2 ≤ (V_198 h i1 (3 : Int32))) (t := 26) (st' := []) rfl rfl trivial (fun c3 => ?_) (fun c3 => ?_)
    · have c3 := Int32.not_lt.mpr c3
      have H := H.2 c3
      refine wp_steps (i' := 27) (ls' := [some (.ref 381), some (.int (i1 + 1))]) (st' := []) (h' := h) (P := True) 1 rfl rfl trivial ?_
      refine wp_J (j := 2) (st' := []) rfl rfl ?_
      exact H 
    · have c3 := Int32.not_le.mp c3
      have H := H.1 c3
      refine wp_steps (i' := 21) (ls' := [some (.ref 381), some (.int i1)]) (st' := [.int 2, .int i1, .ref 381, .int 40, .int 2, .int i1, .ref 381]) (h' := h) (P := True) 7 rfl rfl trivial ?_
      obtain ⟨o4, H⟩ := H
      refine wp_call (b := false) (y' := 198) (as := [.ref 381, .int i1, .int 2]) (rest := [.int 40, .int 2, .int i1, .ref 381]) (P := ((mxT 381).1 = mxRc 198 ∧ mxG h)) rfl (by with_unfolding_all rfl) ⟨(congrArg Prod.fst sT_381), G⟩ (Nat.le_of_ble_eq_true rfl) (sp_198 G o4 ?_)
      show mx_wp (d + 1) 242 22 [some (.ref 381), some (.int i1)] [.int (V_198 h i1 (2 : Int32)), .int 40, .int 2, .int i1, .ref 381] h Q
      refine wp_steps (i' := 24) (ls' := [some (.ref 381), some (.int i1)]) (st' := [.int ((V_198 h i1 (2 : Int32)) + 1), .int 40, .int 2, .int i1, .ref 381]) (h' := h) (P := True) 2 rfl rfl trivial ?_
      refine wp_call (b := false) (y' := 192) (as := [.int 40, .int ((V_198 h i1 (2 : Int32)) + 1)]) (rest := [.int 2, .int i1, .ref 381]) (P := True) rfl (by with_unfolding_all rfl) trivial (Nat.le_of_ble_eq_true rfl) (sp_192 G ?_)
      show mx_wp (d + 1) 242 25 [some (.ref 381), some (.int i1)] [.int (V_192 h (40 : Int32) ((V_198 h i1 (2 : Int32)) + 1)), .int 2, .int i1, .ref 381] h Q
      refine wp_call (b := false) (y' := 199) (as := [.ref 381, .int i1, .int 2, .int (V_192 h (40 : Int32) ((V_198 h i1 (2 : Int32)) + 1))]) (rest := []) (P := ((mxT 381).1 = mxRc 199 ∧ mxG h)) rfl (by with_unfolding_all rfl) ⟨(congrArg Prod.fst sT_381), G⟩ (Nat.le_of_ble_eq_true rfl) (sp_199 G o4 ?_)
      show mx_wp (d + 1) 242 26 [some (.ref 381), some (.int i1)] [] (W_199 h i1 (2 : Int32) (V_192 h (40 : Int32) ((V_198 h i1 (2 : Int32)) + 1))) Q
      obtain ⟨h5, e6⟩ : ∃ z9, z9 = W_199 h i1 (2 : Int32) (V_192 h (40 : Int32) ((V_198 h i1 (2 : Int32)) + 1)) := ⟨_, rfl⟩
      rw [← e6]
      have H := H h5 e6
      have K8 : mxK h h5 := e6 ▸ KW_199
      have G7 : mxG h5 := mxK_G K8 G
      refine wp_steps (i' := 27) (ls' := [some (.ref 381), some (.int (i1 + 1))]) (st' := []) (h' := h5) (P := True) 1 rfl rfl trivial ?_
      refine wp_J (j := 2) (st' := []) rfl rfl ?_
      exact H 
set_option maxRecDepth 8000 in
theorem tr_242_30 {d : Nat} {h : mxH} {Q : mxO → mxH → Prop}  {i1 : Int32} (G : mxG h)  (H : ((i1 < (mx_i h 382 3) → (vp_in ((33 + (6 * i1)) + (4 : Int32)) 769 ∧ (∀ h3, h3 = W_197 h i1 (4 : Int32) ((V_196 h i1 (4 : Int32)) / 2) → H_242_30 (d + 1) h3 (i1 + 1) Q))) ∧ (¬ i1 < (mx_i h 382 3) → Q (.inl none) h))) : H_242_30 (d + 1) h i1 Q := by
  show mx_wp (d + 1) 242 30 [some (.ref 381), some (.int i1)] [] h Q
  refine wp_steps (i' := 35) (ls' := [some (.ref 381), some (.int i1)]) (st' := [.int (mx_i h 382 3), .int i1]) (h' := h) (P := ((mxT 381).1 = 11 ∧ mxG h) ∧ (((mxT 382).1 = 50 ∧ mxG h) ∧ vp_in 3 (mxT 382).2) ∧ True) 5 rfl rfl ⟨⟨(congrArg Prod.fst sT_381), G⟩, (cA sT_382 G (vpl rfl)), trivial⟩ ?_
  refine wp_br (P := True) (c := (mx_i h 382 3) ≤ i1) (t := 48) (st' := []) rfl rfl trivial (fun c1 => ?_) (fun c1 => ?_)
  · have c1 := Int32.not_lt.mpr c1
    have H := H.2 c1
    exact wp_end (o := .inl none) (h' := h) (P := True) rfl rfl trivial H
  · have c1 := Int32.not_le.mp c1
    have H := H.1 c1
    refine wp_steps (i' := 42) (ls' := [some (.ref 381), some (.int i1)]) (st' := [.int 4, .int i1, .ref 381, .int 4, .int i1, .ref 381]) (h' := h) (P := True) 6 rfl rfl trivial ?_
    obtain ⟨o2, H⟩ := H
    refine wp_call (b := false) (y' := 196) (as := [.ref 381, .int i1, .int 4]) (rest := [.int 4, .int i1, .ref 381]) (P := ((mxT 381).1 = mxRc 196 ∧ mxG h)) rfl (by with_unfolding_all rfl) ⟨(congrArg Prod.fst sT_381), G⟩ (Nat.le_of_ble_eq_true rfl) (sp_196 G o2 ?_)
    show mx_wp (d + 1) 242 43 [some (.ref 381), some (.int i1)] [.int (V_196 h i1 (4 : Int32)), .int 4, .int i1, .ref 381] h Q
    refine wp_steps (i' := 45) (ls' := [some (.ref 381), some (.int i1)]) (st' := [.int ((V_196 h i1 (4 : Int32)) / 2), .int 4, .int i1, .ref 381]) (h' := h) (P := (¬ (2 : Int32) = 0) ∧ True) 2 rfl rfl ⟨(by decide), trivial⟩ ?_
    refine wp_call (b := false) (y' := 197) (as := [.ref 381, .int i1, .int 4, .int ((V_196 h i1 (4 : Int32)) / 2)]) (rest := []) (P := ((mxT 381).1 = mxRc 197 ∧ mxG h)) rfl (by with_unfolding_all rfl) ⟨(congrArg Prod.fst sT_381), G⟩ (Nat.le_of_ble_eq_true rfl) (sp_197 G o2 ?_)
    show mx_wp (d + 1) 242 46 [some (.ref 381), some (.int i1)] [] (W_197 h i1 (4 : Int32) ((V_196 h i1 (4 : Int32)) / 2)) Q
    obtain ⟨h3, e4⟩ : ∃ z9, z9 = W_197 h i1 (4 : Int32) ((V_196 h i1 (4 : Int32)) / 2) := ⟨_, rfl⟩
    rw [← e4]
    have H := H h3 e4
    have K6 : mxK h h3 := e4 ▸ KW_197
    have G5 : mxG h3 := mxK_G K6 G
    refine wp_steps (i' := 47) (ls' := [some (.ref 381), some (.int (i1 + 1))]) (st' := []) (h' := h3) (P := True) 1 rfl rfl trivial ?_
    refine wp_J (j := 30) (st' := []) rfl rfl ?_
    exact H 
def F_242_2 (z : Nat) (s : mxH) : mxH := (if (V_198 s (nI z) (3 : Int32)) < 2 then (W_199 s (nI z) (2 : Int32) (V_192 s (40 : Int32) ((V_198 s (nI z) (2 : Int32)) + 1))) else s)
theorem K_242_2 (z : Nat) (s : mxH) : mxK s (F_242_2 z s) := by
  unfold F_242_2
  (try simp only []); repeat' (first | with_reducible exact mxK_rfl | with_reducible exact mxK_wi | with_reducible exact mxK_wrow | with_reducible refine mxK_ite ?_ ?_ | with_reducible refine mxK_tr ?_ mxK_wi | with_reducible refine mxK_tr ?_ mxK_wrow | with_reducible exact KW_199 | with_reducible refine mxK_tr ?_ KW_199)
theorem lp_242_2 {d : Nat} {Q : mxO → mxH → Prop} {s0 : mxH} {n : Nat} (z0 : Nat) (G : mxG s0)  (hB : ∀ z, z0 ≤ z → z ≤ n → (mx_i (fz F_242_2 z0 z s0) 382 4) = nI n) (hn : n < 2147483648) (hz : z0 ≤ n) (ob : ∀ z, z0 ≤ z → z < n → (vp_in ((69 + (6 * (nI z))) + (3 : Int32)) 769 ∧ (((V_198 (fz F_242_2 z0 z s0) (nI z) (3 : Int32)) < 2 → (vp_in ((69 + (6 * (nI z))) + (2 : Int32)) 769 ∧ True)) ∧ (¬ (V_198 (fz F_242_2 z0 z s0) (nI z) (3 : Int32)) < 2 → True)))) (k : H_242_30 (d + 1) (fz F_242_2 z0 n s0) 0 Q) : H_242_2 (d + 1) s0 (nI z0) Q := by
  have L : ∀ (j z : Nat), z0 ≤ z → z + j = n → H_242_2 (d + 1) (fz F_242_2 z0 z s0) (nI z) Q := by
    intro j
    induction j with
    | zero =>
      intro z hz0 hzn
      have hzn : z = n := by omega
      subst hzn
      have Gz : mxG (fz F_242_2 z0 z s0) := mxK_G (mxK_fz (g := fun s => s) (fun z s => K_242_2 z s) z0 z s0) G
      have hBz := hB z hz0 (by omega)
      refine tr_242_2 Gz  ⟨fun c9 => absurd (hBz ▸ c9) Int32.lt_irrefl, fun c9 => k⟩
    | succ j ih =>
      intro z hz0 hzn
      have hih := ih (z + 1) (by omega) (by omega)
      rw [nI_succ, fz_s hz0] at hih
      have Gz : mxG (fz F_242_2 z0 z s0) := mxK_G (mxK_fz (g := fun s => s) (fun z s => K_242_2 z s) z0 z s0) G
      have hBz := hB z hz0 (by omega)
      have hob := ob z hz0 (by omega)
      refine tr_242_2 Gz  ⟨fun c9 => ?_, fun c9 => absurd (hBz.symm ▸ nI_lt (by omega) hn) c9⟩
      generalize (fz F_242_2 z0 z s0) = s at hih hob hBz Gz ⊢
      unfold F_242_2 at hih
      (try simp only [] at hih)
      obtain ⟨q0, hob⟩ := hob
      refine ⟨q0, ?_⟩
      refine ⟨fun c9 => ?_, fun c9 => ?_⟩
      · try simp only [if_pos c9] at hih
        have hob := hob.1 c9
        obtain ⟨q0, hob⟩ := hob
        refine ⟨q0, ?_⟩
        intro h5 eh5
        subst eh5
        exact hih
      · try simp only [if_neg c9] at hih
        have hob := hob.2 c9
        exact hih
  have L0 := L (n - z0) z0 (Nat.le_refl _) (by omega)
  simp only [fz_0] at L0
  exact L0
def F_242_30 (z : Nat) (s : mxH) : mxH := (W_197 s (nI z) (4 : Int32) ((V_196 s (nI z) (4 : Int32)) / 2))
theorem K_242_30 (z : Nat) (s : mxH) : mxK s (F_242_30 z s) := by
  unfold F_242_30
  (try simp only []); repeat' (first | with_reducible exact mxK_rfl | with_reducible exact mxK_wi | with_reducible exact mxK_wrow | with_reducible refine mxK_ite ?_ ?_ | with_reducible refine mxK_tr ?_ mxK_wi | with_reducible refine mxK_tr ?_ mxK_wrow | with_reducible exact KW_197 | with_reducible refine mxK_tr ?_ KW_197)
theorem lp_242_30 {d : Nat} {Q : mxO → mxH → Prop} {s0 : mxH} {n : Nat} (z0 : Nat) (G : mxG s0)  (hB : ∀ z, z0 ≤ z → z ≤ n → (mx_i (fz F_242_30 z0 z s0) 382 3) = nI n) (hn : n < 2147483648) (hz : z0 ≤ n) (ob : ∀ z, z0 ≤ z → z < n → (vp_in ((33 + (6 * (nI z))) + (4 : Int32)) 769 ∧ True)) (k : Q (.inl none) (fz F_242_30 z0 n s0)) : H_242_30 (d + 1) s0 (nI z0) Q := by
  have L : ∀ (j z : Nat), z0 ≤ z → z + j = n → H_242_30 (d + 1) (fz F_242_30 z0 z s0) (nI z) Q := by
    intro j
    induction j with
    | zero =>
      intro z hz0 hzn
      have hzn : z = n := by omega
      subst hzn
      have Gz : mxG (fz F_242_30 z0 z s0) := mxK_G (mxK_fz (g := fun s => s) (fun z s => K_242_30 z s) z0 z s0) G
      have hBz := hB z hz0 (by omega)
      refine tr_242_30 Gz  ⟨fun c9 => absurd (hBz ▸ c9) Int32.lt_irrefl, fun c9 => k⟩
    | succ j ih =>
      intro z hz0 hzn
      have hih := ih (z + 1) (by omega) (by omega)
      rw [nI_succ, fz_s hz0] at hih
      have Gz : mxG (fz F_242_30 z0 z s0) := mxK_G (mxK_fz (g := fun s => s) (fun z s => K_242_30 z s) z0 z s0) G
      have hBz := hB z hz0 (by omega)
      have hob := ob z hz0 (by omega)
      refine tr_242_30 Gz  ⟨fun c9 => ?_, fun c9 => absurd (hBz.symm ▸ nI_lt (by omega) hn) c9⟩
      obtain ⟨q0, hob⟩ := hob
      refine ⟨q0, ?_⟩
      intro h3 eh3
      subst eh3
      exact hih
  have L0 := L (n - z0) z0 (Nat.le_refl _) (by omega)
  simp only [fz_0] at L0
  exact L0
/-! 243: StoneBacksModel.owed(II)I -/
def H_243_4 (d : Nat) (h : mxH) (i1 : Int32) (i2 : Int32) (i3 : Int32) (i4 : Int32) (Q : mxO → mxH → Prop) : Prop := mx_wp d 243 4 [some (.ref 381), some (.int i1), some (.int i2), some (.int i3), some (.int i4)] [] h Q
set_option maxRecDepth 8000 in
theorem tr_243_0 {d : Nat} {h : mxH} {Q : mxO → mxH → Prop} {i1 : Int32} {i2 : Int32} (G : mxG h)  (H : H_243_4 (d + 1) h i1 i2 0 0 Q) : mx_wp (d + 1) 243 0 (mx_fr 243 [.ref 381, .int i1, .int i2]) [] h Q := by
  show mx_wp (d + 1) 243 0 [some (.ref 381), some (.int i1), some (.int i2), none, none] [] h Q
  refine wp_steps (i' := 4) (ls' := [some (.ref 381), some (.int i1), some (.int i2), some (.int 0), some (.int 0)]) (st' := []) (h' := h) (P := True) 4 rfl rfl trivial ?_
  exact H 
set_option maxRecDepth 8000 in
theorem tr_243_4 {d : Nat} {h : mxH} {Q : mxO → mxH → Prop}  {i1 : Int32} {i2 : Int32} {i3 : Int32} {i4 : Int32} (G : mxG h)  (H : ((i4 < (mx_i h 382 4) → (vp_in ((69 + (6 * i4)) + (3 : Int32)) 769 ∧ ((((V_198 h i4 (3 : Int32)) < 2 → (vp_in ((69 + (6 * i4)) + i2) 769 ∧ True)) ∧ (¬ (V_198 h i4 (3 : Int32)) < 2 → True)) ∧ (∀ (v3 : Int32), v3 = (if (V_198 h i4 (3 : Int32)) < 2 then (if (V_198 h i4 i2) = i1 then (1 <<< (i4 &&& 31)) else 0) else 0) → H_243_4 (d + 1) h i1 i2 (i3 ||| v3) (i4 + 1) Q)))) ∧ (¬ i4 < (mx_i h 382 4) → Q (.inl (some (.int i3))) h))) : H_243_4 (d + 1) h i1 i2 i3 i4 Q := by
  show mx_wp (d + 1) 243 4 [some (.ref 381), some (.int i1), some (.int i2), some (.int i3), some (.int i4)] [] h Q
  refine wp_steps (i' := 9) (ls' := [some (.ref 381), some (.int i1), some (.int i2), some (.int i3), some (.int i4)]) (st' := [.int (mx_i h 382 4), .int i4]) (h' := h) (P := ((mxT 381).1 = 11 ∧ mxG h) ∧ (((mxT 382).1 = 50 ∧ mxG h) ∧ vp_in 4 (mxT 382).2) ∧ True) 5 rfl rfl ⟨⟨(congrArg Prod.fst sT_381), G⟩, (cA sT_382 G (vpl rfl)), trivial⟩ ?_
  refine wp_br (P := True) (c := (mx_i h 382 4) ≤ i4) (t := 32) (st' := []) rfl rfl trivial (fun c1 => ?_) (fun c1 => ?_)
  · have c1 := Int32.not_lt.mpr c1
    have H := H.2 c1
    refine wp_steps (i' := 33) (ls' := [some (.ref 381), some (.int i1), some (.int i2), some (.int i3), some (.int i4)]) (st' := [.int i3]) (h' := h) (P := True) 1 rfl rfl trivial ?_
    exact wp_end (o := .inl (some (.int i3))) (h' := h) (P := True) rfl rfl trivial H
  · have c1 := Int32.not_le.mp c1
    have H := H.1 c1
    refine wp_steps (i' := 14) (ls' := [some (.ref 381), some (.int i1), some (.int i2), some (.int i3), some (.int i4)]) (st' := [.int 3, .int i4, .ref 381, .int i3]) (h' := h) (P := True) 4 rfl rfl trivial ?_
    obtain ⟨o2, H⟩ := H
    refine wp_call (b := false) (y' := 198) (as := [.ref 381, .int i4, .int 3]) (rest := [.int i3]) (P := ((mxT 381).1 = mxRc 198 ∧ mxG h)) rfl (by with_unfolding_all rfl) ⟨(congrArg Prod.fst sT_381), G⟩ (Nat.le_of_ble_eq_true rfl) (sp_198 G o2 ?_)
    show mx_wp (d + 1) 243 15 [some (.ref 381), some (.int i1), some (.int i2), some (.int i3), some (.int i4)] [.int (V_198 h i4 (3 : Int32)), .int i3] h Q
    refine wp_steps (i' := 16) (ls' := [some (.ref 381), some (.int i1), some (.int i2), some (.int i3), some (.int i4)]) (st' := [.int 2, .int (V_198 h i4 (3 : Int32)), .int i3]) (h' := h) (P := True) 1 rfl rfl trivial ?_
    have J : ∀ (v3 : Int32) (ev3 : v3 = (if (V_198 h i4 (3 : Int32)) < 2 then (if (V_198 h i4 i2) = i1 then (1 <<< (i4 &&& 31)) else 0) else 0)), mx_wp (d + 1) 243 28 [some (.ref 381), some (.int i1), some (.int i2), some (.int i3), some (.int i4)] [.int v3, .int i3] h Q := by
      intro v3 ev3
      have H := H.2 v3 ev3
      refine wp_steps (i' := 31) (ls' := [some (.ref 381), some (.int i1), some (.int i2), some (.int (i3 ||| v3)), some (.int (i4 + 1))]) (st' := []) (h' := h) (P := True) 3 rfl rfl trivial ?_
      refine wp_J (j := 4) (st' := []) rfl rfl ?_
      exact H 
    have H := H.1
    refine wp_br (P := True) (c := 2 ≤ (V_198 h i4 (3 : Int32))) (t := 27) (st' := [.int i3]) rfl rfl trivial (fun c4 => ?_) (fun c4 => ?_)
    · have c4 := Int32.not_lt.mpr c4
      refine wp_steps (i' := 28) (ls' := [some (.ref 381), some (.int i1), some (.int i2), some (.int i3), some (.int i4)]) (st' := [.int 0, .int i3]) (h' := h) (P := True) 1 rfl rfl trivial ?_
      exact J _ (by rw [if_neg c4])
    · have c4 := Int32.not_le.mp c4
      have H := H.1 c4
      refine wp_steps (i' := 20) (ls' := [some (.ref 381), some (.int i1), some (.int i2), some (.int i3), some (.int i4)]) (st' := [.int i2, .int i4, .ref 381, .int i3]) (h' := h) (P := True) 3 rfl rfl trivial ?_
      obtain ⟨o5, H⟩ := H
      refine wp_call (b := false) (y' := 198) (as := [.ref 381, .int i4, .int i2]) (rest := [.int i3]) (P := ((mxT 381).1 = mxRc 198 ∧ mxG h)) rfl (by with_unfolding_all rfl) ⟨(congrArg Prod.fst sT_381), G⟩ (Nat.le_of_ble_eq_true rfl) (sp_198 G o5 ?_)
      show mx_wp (d + 1) 243 21 [some (.ref 381), some (.int i1), some (.int i2), some (.int i3), some (.int i4)] [.int (V_198 h i4 i2), .int i3] h Q
      refine wp_steps (i' := 22) (ls' := [some (.ref 381), some (.int i1), some (.int i2), some (.int i3), some (.int i4)]) (st' := [.int i1, .int (V_198 h i4 i2), .int i3]) (h' := h) (P := True) 1 rfl rfl trivial ?_
      refine wp_br (P := True) (c := ¬ (V_198 h i4 i2) = i1) (t := 27) (st' := [.int i3]) rfl rfl trivial (fun c6 => ?_) (fun c6 => ?_)
      · skip
        refine wp_steps (i' := 28) (ls' := [some (.ref 381), some (.int i1), some (.int i2), some (.int i3), some (.int i4)]) (st' := [.int 0, .int i3]) (h' := h) (P := True) 1 rfl rfl trivial ?_
        exact J _ (by rw [if_pos c4, if_neg c6])
      · have c6 := Decidable.of_not_not c6
        refine wp_steps (i' := 26) (ls' := [some (.ref 381), some (.int i1), some (.int i2), some (.int i3), some (.int i4)]) (st' := [.int (1 <<< (i4 &&& 31)), .int i3]) (h' := h) (P := True) 3 rfl rfl trivial ?_
        refine wp_J (j := 28) (st' := [.int (1 <<< (i4 &&& 31)), .int i3]) rfl rfl ?_
        exact J _ (by rw [if_pos c4, if_pos c6])
def F_243_4 (h : mxH) (i1 : Int32) (i2 : Int32) (z : Nat) (s : Int32) : Int32 := (s ||| ((if (V_198 h (nI z) (3 : Int32)) < 2 then (if (V_198 h (nI z) i2) = i1 then (1 <<< ((nI z) &&& 31)) else 0) else 0) : Int32))
theorem lp_243_4 {d : Nat} {h : mxH} {Q : mxO → mxH → Prop} {i1 : Int32} {i2 : Int32} {s0 : Int32} {n : Nat} (z0 : Nat) (G : mxG h)  (hB : (mx_i h 382 4) = nI n) (hn : n < 2147483648) (hz : z0 ≤ n) (ob : ∀ z, z0 ≤ z → z < n → (vp_in ((69 + (6 * (nI z))) + (3 : Int32)) 769 ∧ ((((V_198 h (nI z) (3 : Int32)) < 2 → (vp_in ((69 + (6 * (nI z))) + i2) 769 ∧ True)) ∧ (¬ (V_198 h (nI z) (3 : Int32)) < 2 → True)) ∧ True))) (k : Q (.inl (some (.int (fz (F_243_4 h i1 i2) z0 n s0)))) h) : H_243_4 (d + 1) h i1 i2 s0 (nI z0) Q := by
  have L : ∀ (j z : Nat), z0 ≤ z → z + j = n → H_243_4 (d + 1) h i1 i2 (fz (F_243_4 h i1 i2) z0 z s0) (nI z) Q := by
    intro j
    induction j with
    | zero =>
      intro z hz0 hzn
      have hzn : z = n := by omega
      subst hzn
      refine tr_243_4 G  ⟨fun c9 => absurd (hB ▸ c9) Int32.lt_irrefl, fun c9 => k⟩
    | succ j ih =>
      intro z hz0 hzn
      have hih := ih (z + 1) (by omega) (by omega)
      rw [nI_succ, fz_s hz0] at hih
      have hob := ob z hz0 (by omega)
      refine tr_243_4 G  ⟨fun c9 => ?_, fun c9 => absurd (hB.symm ▸ nI_lt (by omega) hn) c9⟩
      obtain ⟨q0, hob⟩ := hob
      refine ⟨q0, ?_⟩
      obtain ⟨q0, hob⟩ := hob
      refine ⟨q0, ?_⟩
      intro v3 ev3
      subst ev3
      exact hih
  have L0 := L (n - z0) z0 (Nat.le_refl _) (by omega)
  simp only [fz_0] at L0
  exact L0
/-! 246: StoneBacksModel.stone(II)I -/
set_option maxRecDepth 8000 in
theorem tr_246_0 {d : Nat} {h : mxH} {Q : mxO → mxH → Prop} {i1 : Int32} {i2 : Int32} (G : mxG h)  (H : (((V_191 h i1 (0 : Int32) ((mx_i h 382 4) - 1)) = 0 ∨ (V_191 h i1 (0 : Int32) ((mx_i h 382 4) - 1)) = 1) ∧ (∀ (v2 : Int32), v2 = (if (V_201 h i1) = 0 then 1 else (if (V_191 h i2 (0 : Int32) (5 : Int32)) = 0 then 2 else 0)) → (∀ h3, h3 = mx_wi h 381 0 v2 → ((0 < (mx_i h3 381 0) → Q (.inl (some (.int 0))) h3) ∧ (¬ 0 < (mx_i h3 381 0) → (vp_in ((69 + (6 * i1)) + (3 : Int32)) 769 ∧ ((i2 < 4 → (vp_in ((69 + (6 * i1)) + i2) 769 ∧ Q (.inl (some (.int (V_198 h3 i1 i2)))) h3)) ∧ (¬ i2 < 4 → ((i2 = 4 → ((((V_198 h3 i1 (3 : Int32)) = 0 → (vp_in ((69 + (6 * i1)) + (4 : Int32)) 769 ∧ True)) ∧ (¬ (V_198 h3 i1 (3 : Int32)) = 0 → True)) ∧ (∀ (v16 : Int32), v16 = (if (V_198 h3 i1 (3 : Int32)) = 0 then (V_198 h3 i1 (4 : Int32)) else (-1)) → Q (.inl (some (.int v16))) h3))) ∧ (¬ i2 = 4 → ((((V_198 h3 i1 (3 : Int32)) = 0 → (vp_in ((69 + (6 * i1)) + (4 : Int32)) 769 ∧ (vp_in ((33 + (6 * (V_198 h3 i1 (4 : Int32)))) + (2 : Int32)) 769 ∧ True))) ∧ (¬ (V_198 h3 i1 (3 : Int32)) = 0 → (((V_198 h3 i1 (3 : Int32)) = 1 → (vp_in ((69 + (6 * i1)) + (5 : Int32)) 769 ∧ True)) ∧ (¬ (V_198 h3 i1 (3 : Int32)) = 1 → True)))) ∧ (∀ (v10 : Int32), v10 = (if (V_198 h3 i1 (3 : Int32)) = 0 then (V_196 h3 (V_198 h3 i1 (4 : Int32)) (2 : Int32)) else (if (V_198 h3 i1 (3 : Int32)) = 1 then (V_198 h3 i1 (5 : Int32)) else (-1))) → Q (.inl (some (.int v10))) h3))))))))))))) : mx_wp (d + 2) 246 0 (mx_fr 246 [.ref 381, .int i1, .int i2]) [] h Q := by
  show mx_wp (d + 2) 246 0 [some (.ref 381), some (.int i1), some (.int i2), none] [] h Q
  refine wp_steps (i' := 3) (ls' := [some (.ref 381), some (.int i1), some (.int i2), none]) (st' := [.int i1, .ref 381, .ref 381]) (h' := h) (P := True) 3 rfl rfl trivial ?_
  obtain ⟨o1, H⟩ := H
  refine wp_call (b := false) (y' := 201) (as := [.ref 381, .int i1]) (rest := [.ref 381]) (P := ((mxT 381).1 = mxRc 201 ∧ mxG h)) rfl (by with_unfolding_all rfl) ⟨(congrArg Prod.fst sT_381), G⟩ (Nat.le_of_ble_eq_true rfl) (sp_201 G o1 ?_)
  show mx_wp (d + 2) 246 4 [some (.ref 381), some (.int i1), some (.int i2), none] [.int (V_201 h i1), .ref 381] h Q
  have J : ∀ (v2 : Int32) (ev2 : v2 = (if (V_201 h i1) = 0 then 1 else (if (V_191 h i2 (0 : Int32) (5 : Int32)) = 0 then 2 else 0))), mx_wp (d + 2) 246 15 [some (.ref 381), some (.int i1), some (.int i2), none] [.int v2, .ref 381] h Q := by
    intro v2 ev2
    have H := H v2 ev2
    refine wp_steps (i' := 16) (ls' := [some (.ref 381), some (.int i1), some (.int i2), none]) (st' := []) (h' := mx_wi h 381 0 v2) (P := ((mxT 381).1 = 11 ∧ mxG h) ∧ True) 1 rfl rfl ⟨⟨(congrArg Prod.fst sT_381), G⟩, trivial⟩ ?_
    obtain ⟨h3, e4⟩ : ∃ z9, z9 = mx_wi h 381 0 v2 := ⟨_, rfl⟩
    rw [← e4]
    have H := H h3 e4
    have G5 : mxG h3 := e4 ▸ mxG_wi G
    refine wp_steps (i' := 18) (ls' := [some (.ref 381), some (.int i1), some (.int i2), none]) (st' := [.int (mx_i h3 381 0)]) (h' := h3) (P := ((mxT 381).1 = 11 ∧ mxG h3) ∧ True) 2 rfl rfl ⟨⟨(congrArg Prod.fst sT_381), G5⟩, trivial⟩ ?_
    refine wp_br (P := True) (c := (mx_i h3 381 0) ≤ 0) (t := 21) (st' := []) rfl rfl trivial (fun c6 => ?_) (fun c6 => ?_)
    · have c6 := Int32.not_lt.mpr c6
      have H := H.2 c6
      refine wp_steps (i' := 24) (ls' := [some (.ref 381), some (.int i1), some (.int i2), none]) (st' := [.int 3, .int i1, .ref 381]) (h' := h3) (P := True) 3 rfl rfl trivial ?_
      obtain ⟨o7, H⟩ := H
      refine wp_call (b := false) (y' := 198) (as := [.ref 381, .int i1, .int 3]) (rest := []) (P := ((mxT 381).1 = mxRc 198 ∧ mxG h3)) rfl (by with_unfolding_all rfl) ⟨(congrArg Prod.fst sT_381), G5⟩ (Nat.le_of_ble_eq_true rfl) (sp_198 G5 o7 ?_)
      show mx_wp (d + 2) 246 25 [some (.ref 381), some (.int i1), some (.int i2), none] [.int (V_198 h3 i1 (3 : Int32))] h3 Q
      refine wp_steps (i' := 28) (ls' := [some (.ref 381), some (.int i1), some (.int i2), some (.int (V_198 h3 i1 (3 : Int32)))]) (st' := [.int 4, .int i2]) (h' := h3) (P := True) 3 rfl rfl trivial ?_
      refine wp_br (P := True) (c := 4 ≤ i2) (t := 34) (st' := []) rfl rfl trivial (fun c8 => ?_) (fun c8 => ?_)
      · have c8 := Int32.not_lt.mpr c8
        have H := H.2 c8
        refine wp_steps (i' := 36) (ls' := [some (.ref 381), some (.int i1), some (.int i2), some (.int (V_198 h3 i1 (3 : Int32)))]) (st' := [.int 4, .int i2]) (h' := h3) (P := True) 2 rfl rfl trivial ?_
        refine wp_br (P := True) (c := ¬ i2 = 4) (t := 46) (st' := []) rfl rfl trivial (fun c9 => ?_) (fun c9 => ?_)
        · skip
          have H := H.2 c9
          refine wp_steps (i' := 47) (ls' := [some (.ref 381), some (.int i1), some (.int i2), some (.int (V_198 h3 i1 (3 : Int32)))]) (st' := [.int (V_198 h3 i1 (3 : Int32))]) (h' := h3) (P := True) 1 rfl rfl trivial ?_
          have J : ∀ (v10 : Int32) (ev10 : v10 = (if (V_198 h3 i1 (3 : Int32)) = 0 then (V_196 h3 (V_198 h3 i1 (4 : Int32)) (2 : Int32)) else (if (V_198 h3 i1 (3 : Int32)) = 1 then (V_198 h3 i1 (5 : Int32)) else (-1)))), mx_wp (d + 2) 246 65 [some (.ref 381), some (.int i1), some (.int i2), some (.int (V_198 h3 i1 (3 : Int32)))] [.int v10] h3 Q := by
            intro v10 ev10
            have H := H.2 v10 ev10
            exact wp_end (o := .inl (some (.int v10))) (h' := h3) (P := True) rfl rfl trivial H
          have H := H.1
          refine wp_br (P := True) (c := ¬ (V_198 h3 i1 (3 : Int32)) = 0) (t := 56) (st' := []) rfl rfl trivial (fun c11 => ?_) (fun c11 => ?_)
          · skip
            have H := H.2 c11
            refine wp_steps (i' := 58) (ls' := [some (.ref 381), some (.int i1), some (.int i2), some (.int (V_198 h3 i1 (3 : Int32)))]) (st' := [.int 1, .int (V_198 h3 i1 (3 : Int32))]) (h' := h3) (P := True) 2 rfl rfl trivial ?_
            refine wp_br (P := True) (c := ¬ (V_198 h3 i1 (3 : Int32)) = 1) (t := 64) (st' := []) rfl rfl trivial (fun c12 => ?_) (fun c12 => ?_)
            · skip
              refine wp_steps (i' := 65) (ls' := [some (.ref 381), some (.int i1), some (.int i2), some (.int (V_198 h3 i1 (3 : Int32)))]) (st' := [.int (-1)]) (h' := h3) (P := True) 1 rfl rfl trivial ?_
              exact J _ (by rw [if_neg c11, if_neg c12])
            · have c12 := Decidable.of_not_not c12
              have H := H.1 c12
              refine wp_steps (i' := 62) (ls' := [some (.ref 381), some (.int i1), some (.int i2), some (.int (V_198 h3 i1 (3 : Int32)))]) (st' := [.int 5, .int i1, .ref 381]) (h' := h3) (P := True) 3 rfl rfl trivial ?_
              obtain ⟨o13, H⟩ := H
              refine wp_call (b := false) (y' := 198) (as := [.ref 381, .int i1, .int 5]) (rest := []) (P := ((mxT 381).1 = mxRc 198 ∧ mxG h3)) rfl (by with_unfolding_all rfl) ⟨(congrArg Prod.fst sT_381), G5⟩ (Nat.le_of_ble_eq_true rfl) (sp_198 G5 o13 ?_)
              show mx_wp (d + 2) 246 63 [some (.ref 381), some (.int i1), some (.int i2), some (.int (V_198 h3 i1 (3 : Int32)))] [.int (V_198 h3 i1 (5 : Int32))] h3 Q
              refine wp_J (j := 65) (st' := [.int (V_198 h3 i1 (5 : Int32))]) rfl rfl ?_
              exact J _ (by rw [if_neg c11, if_pos c12])
          · have c11 := Decidable.of_not_not c11
            have H := H.1 c11
            refine wp_steps (i' := 52) (ls' := [some (.ref 381), some (.int i1), some (.int i2), some (.int (V_198 h3 i1 (3 : Int32)))]) (st' := [.int 4, .int i1, .ref 381, .ref 381]) (h' := h3) (P := True) 4 rfl rfl trivial ?_
            obtain ⟨o14, H⟩ := H
            refine wp_call (b := false) (y' := 198) (as := [.ref 381, .int i1, .int 4]) (rest := [.ref 381]) (P := ((mxT 381).1 = mxRc 198 ∧ mxG h3)) rfl (by with_unfolding_all rfl) ⟨(congrArg Prod.fst sT_381), G5⟩ (Nat.le_of_ble_eq_true rfl) (sp_198 G5 o14 ?_)
            show mx_wp (d + 2) 246 53 [some (.ref 381), some (.int i1), some (.int i2), some (.int (V_198 h3 i1 (3 : Int32)))] [.int (V_198 h3 i1 (4 : Int32)), .ref 381] h3 Q
            refine wp_steps (i' := 54) (ls' := [some (.ref 381), some (.int i1), some (.int i2), some (.int (V_198 h3 i1 (3 : Int32)))]) (st' := [.int 2, .int (V_198 h3 i1 (4 : Int32)), .ref 381]) (h' := h3) (P := True) 1 rfl rfl trivial ?_
            obtain ⟨o15, H⟩ := H
            refine wp_call (b := false) (y' := 196) (as := [.ref 381, .int (V_198 h3 i1 (4 : Int32)), .int 2]) (rest := []) (P := ((mxT 381).1 = mxRc 196 ∧ mxG h3)) rfl (by with_unfolding_all rfl) ⟨(congrArg Prod.fst sT_381), G5⟩ (Nat.le_of_ble_eq_true rfl) (sp_196 G5 o15 ?_)
            show mx_wp (d + 2) 246 55 [some (.ref 381), some (.int i1), some (.int i2), some (.int (V_198 h3 i1 (3 : Int32)))] [.int (V_196 h3 (V_198 h3 i1 (4 : Int32)) (2 : Int32))] h3 Q
            refine wp_J (j := 65) (st' := [.int (V_196 h3 (V_198 h3 i1 (4 : Int32)) (2 : Int32))]) rfl rfl ?_
            exact J _ (by rw [if_pos c11])
        · have c9 := Decidable.of_not_not c9
          have H := H.1 c9
          refine wp_steps (i' := 38) (ls' := [some (.ref 381), some (.int i1), some (.int i2), some (.int (V_198 h3 i1 (3 : Int32)))]) (st' := [.int (V_198 h3 i1 (3 : Int32))]) (h' := h3) (P := True) 1 rfl rfl trivial ?_
          have J : ∀ (v16 : Int32) (ev16 : v16 = (if (V_198 h3 i1 (3 : Int32)) = 0 then (V_198 h3 i1 (4 : Int32)) else (-1))), mx_wp (d + 2) 246 45 [some (.ref 381), some (.int i1), some (.int i2), some (.int (V_198 h3 i1 (3 : Int32)))] [.int v16] h3 Q := by
            intro v16 ev16
            have H := H.2 v16 ev16
            exact wp_end (o := .inl (some (.int v16))) (h' := h3) (P := True) rfl rfl trivial H
          have H := H.1
          refine wp_br (P := True) (c := ¬ (V_198 h3 i1 (3 : Int32)) = 0) (t := 44) (st' := []) rfl rfl trivial (fun c17 => ?_) (fun c17 => ?_)
          · skip
            refine wp_steps (i' := 45) (ls' := [some (.ref 381), some (.int i1), some (.int i2), some (.int (V_198 h3 i1 (3 : Int32)))]) (st' := [.int (-1)]) (h' := h3) (P := True) 1 rfl rfl trivial ?_
            exact J _ (by rw [if_neg c17])
          · have c17 := Decidable.of_not_not c17
            have H := H.1 c17
            refine wp_steps (i' := 42) (ls' := [some (.ref 381), some (.int i1), some (.int i2), some (.int (V_198 h3 i1 (3 : Int32)))]) (st' := [.int 4, .int i1, .ref 381]) (h' := h3) (P := True) 3 rfl rfl trivial ?_
            obtain ⟨o18, H⟩ := H
            refine wp_call (b := false) (y' := 198) (as := [.ref 381, .int i1, .int 4]) (rest := []) (P := ((mxT 381).1 = mxRc 198 ∧ mxG h3)) rfl (by with_unfolding_all rfl) ⟨(congrArg Prod.fst sT_381), G5⟩ (Nat.le_of_ble_eq_true rfl) (sp_198 G5 o18 ?_)
            show mx_wp (d + 2) 246 43 [some (.ref 381), some (.int i1), some (.int i2), some (.int (V_198 h3 i1 (3 : Int32)))] [.int (V_198 h3 i1 (4 : Int32))] h3 Q
            refine wp_J (j := 45) (st' := [.int (V_198 h3 i1 (4 : Int32))]) rfl rfl ?_
            exact J _ (by rw [if_pos c17])
      · have c8 := Int32.not_le.mp c8
        have H := H.1 c8
        refine wp_steps (i' := 32) (ls' := [some (.ref 381), some (.int i1), some (.int i2), some (.int (V_198 h3 i1 (3 : Int32)))]) (st' := [.int i2, .int i1, .ref 381]) (h' := h3) (P := True) 3 rfl rfl trivial ?_
        obtain ⟨o19, H⟩ := H
        refine wp_call (b := false) (y' := 198) (as := [.ref 381, .int i1, .int i2]) (rest := []) (P := ((mxT 381).1 = mxRc 198 ∧ mxG h3)) rfl (by with_unfolding_all rfl) ⟨(congrArg Prod.fst sT_381), G5⟩ (Nat.le_of_ble_eq_true rfl) (sp_198 G5 o19 ?_)
        show mx_wp (d + 2) 246 33 [some (.ref 381), some (.int i1), some (.int i2), some (.int (V_198 h3 i1 (3 : Int32)))] [.int (V_198 h3 i1 i2)] h3 Q
        exact wp_end (o := .inl (some (.int (V_198 h3 i1 i2)))) (h' := h3) (P := True) rfl rfl trivial H
    · have c6 := Int32.not_le.mp c6
      have H := H.1 c6
      refine wp_steps (i' := 20) (ls' := [some (.ref 381), some (.int i1), some (.int i2), none]) (st' := [.int 0]) (h' := h3) (P := True) 1 rfl rfl trivial ?_
      exact wp_end (o := .inl (some (.int 0))) (h' := h3) (P := True) rfl rfl trivial H
  refine wp_br (P := True) (c := ¬ (V_201 h i1) = 0) (t := 7) (st' := [.ref 381]) rfl rfl trivial (fun c20 => ?_) (fun c20 => ?_)
  · skip
    refine wp_steps (i' := 10) (ls' := [some (.ref 381), some (.int i1), some (.int i2), none]) (st' := [.int 5, .int 0, .int i2, .ref 381]) (h' := h) (P := True) 3 rfl rfl trivial ?_
    refine wp_call (b := false) (y' := 191) (as := [.int i2, .int 0, .int 5]) (rest := [.ref 381]) (P := True) rfl (by with_unfolding_all rfl) trivial (Nat.le_of_ble_eq_true rfl) (sp_191 G ?_)
    show mx_wp (d + 2) 246 11 [some (.ref 381), some (.int i1), some (.int i2), none] [.int (V_191 h i2 (0 : Int32) (5 : Int32)), .ref 381] h Q
    refine wp_br (P := True) (c := ¬ (V_191 h i2 (0 : Int32) (5 : Int32)) = 0) (t := 14) (st' := [.ref 381]) rfl rfl trivial (fun c21 => ?_) (fun c21 => ?_)
    · skip
      refine wp_steps (i' := 15) (ls' := [some (.ref 381), some (.int i1), some (.int i2), none]) (st' := [.int 0, .ref 381]) (h' := h) (P := True) 1 rfl rfl trivial ?_
      exact J _ (by rw [if_neg c20, if_neg c21])
    · have c21 := Decidable.of_not_not c21
      refine wp_steps (i' := 13) (ls' := [some (.ref 381), some (.int i1), some (.int i2), none]) (st' := [.int 2, .ref 381]) (h' := h) (P := True) 1 rfl rfl trivial ?_
      refine wp_J (j := 15) (st' := [.int 2, .ref 381]) rfl rfl ?_
      exact J _ (by rw [if_neg c20, if_pos c21])
  · have c20 := Decidable.of_not_not c20
    refine wp_steps (i' := 6) (ls' := [some (.ref 381), some (.int i1), some (.int i2), none]) (st' := [.int 1, .ref 381]) (h' := h) (P := True) 1 rfl rfl trivial ?_
    refine wp_J (j := 15) (st' := [.int 1, .ref 381]) rfl rfl ?_
    exact J _ (by rw [if_pos c20])
def V_246 (h : mxH) (i1 : Int32) (i2 : Int32) : Int32 := (if 0 < (mx_i (mx_wi h 381 0 ((if (V_201 h i1) = 0 then 1 else (if (V_191 h i2 (0 : Int32) (5 : Int32)) = 0 then 2 else 0)) : Int32)) 381 0) then 0 else (if i2 < 4 then (V_198 (mx_wi h 381 0 ((if (V_201 h i1) = 0 then 1 else (if (V_191 h i2 (0 : Int32) (5 : Int32)) = 0 then 2 else 0)) : Int32)) i1 i2) else (if i2 = 4 then ((if (V_198 (mx_wi h 381 0 ((if (V_201 h i1) = 0 then 1 else (if (V_191 h i2 (0 : Int32) (5 : Int32)) = 0 then 2 else 0)) : Int32)) i1 (3 : Int32)) = 0 then (V_198 (mx_wi h 381 0 ((if (V_201 h i1) = 0 then 1 else (if (V_191 h i2 (0 : Int32) (5 : Int32)) = 0 then 2 else 0)) : Int32)) i1 (4 : Int32)) else (-1)) : Int32) else ((if (V_198 (mx_wi h 381 0 ((if (V_201 h i1) = 0 then 1 else (if (V_191 h i2 (0 : Int32) (5 : Int32)) = 0 then 2 else 0)) : Int32)) i1 (3 : Int32)) = 0 then (V_196 (mx_wi h 381 0 ((if (V_201 h i1) = 0 then 1 else (if (V_191 h i2 (0 : Int32) (5 : Int32)) = 0 then 2 else 0)) : Int32)) (V_198 (mx_wi h 381 0 ((if (V_201 h i1) = 0 then 1 else (if (V_191 h i2 (0 : Int32) (5 : Int32)) = 0 then 2 else 0)) : Int32)) i1 (4 : Int32)) (2 : Int32)) else (if (V_198 (mx_wi h 381 0 ((if (V_201 h i1) = 0 then 1 else (if (V_191 h i2 (0 : Int32) (5 : Int32)) = 0 then 2 else 0)) : Int32)) i1 (3 : Int32)) = 1 then (V_198 (mx_wi h 381 0 ((if (V_201 h i1) = 0 then 1 else (if (V_191 h i2 (0 : Int32) (5 : Int32)) = 0 then 2 else 0)) : Int32)) i1 (5 : Int32)) else (-1))) : Int32))))
def W_246 (h : mxH) (i1 : Int32) (i2 : Int32) : mxH := (mx_wi h 381 0 ((if (V_201 h i1) = 0 then 1 else (if (V_191 h i2 (0 : Int32) (5 : Int32)) = 0 then 2 else 0)) : Int32))
theorem KW_246 {h : mxH} {i1 : Int32} {i2 : Int32} : mxK h (W_246 h i1 i2) := by
  unfold W_246
  repeat' (first | with_reducible exact mxK_rfl | with_reducible exact mxK_wi | with_reducible exact mxK_wrow | with_reducible refine mxK_ite ?_ ?_ | with_reducible refine mxK_tr ?_ mxK_wi | with_reducible refine mxK_tr ?_ mxK_wrow)
theorem sp_246 {d : Nat} {h : mxH} {Q : mxO → mxH → Prop} {i1 : Int32} {i2 : Int32} (G : mxG h)  (x0 : ((V_191 h i1 (0 : Int32) ((mx_i h 382 4) - 1)) = 0 ∨ (V_191 h i1 (0 : Int32) ((mx_i h 382 4) - 1)) = 1)) (x1 : ((0 < (mx_i (mx_wi h 381 0 ((if (V_201 h i1) = 0 then 1 else (if (V_191 h i2 (0 : Int32) (5 : Int32)) = 0 then 2 else 0)) : Int32)) 381 0) → True) ∧ (¬ 0 < (mx_i (mx_wi h 381 0 ((if (V_201 h i1) = 0 then 1 else (if (V_191 h i2 (0 : Int32) (5 : Int32)) = 0 then 2 else 0)) : Int32)) 381 0) → (vp_in ((69 + (6 * i1)) + (3 : Int32)) 769 ∧ ((i2 < 4 → (vp_in ((69 + (6 * i1)) + i2) 769 ∧ True)) ∧ (¬ i2 < 4 → ((i2 = 4 → ((((V_198 (mx_wi h 381 0 ((if (V_201 h i1) = 0 then 1 else (if (V_191 h i2 (0 : Int32) (5 : Int32)) = 0 then 2 else 0)) : Int32)) i1 (3 : Int32)) = 0 → (vp_in ((69 + (6 * i1)) + (4 : Int32)) 769 ∧ True)) ∧ (¬ (V_198 (mx_wi h 381 0 ((if (V_201 h i1) = 0 then 1 else (if (V_191 h i2 (0 : Int32) (5 : Int32)) = 0 then 2 else 0)) : Int32)) i1 (3 : Int32)) = 0 → True)) ∧ True)) ∧ (¬ i2 = 4 → ((((V_198 (mx_wi h 381 0 ((if (V_201 h i1) = 0 then 1 else (if (V_191 h i2 (0 : Int32) (5 : Int32)) = 0 then 2 else 0)) : Int32)) i1 (3 : Int32)) = 0 → (vp_in ((69 + (6 * i1)) + (4 : Int32)) 769 ∧ (vp_in ((33 + (6 * (V_198 (mx_wi h 381 0 ((if (V_201 h i1) = 0 then 1 else (if (V_191 h i2 (0 : Int32) (5 : Int32)) = 0 then 2 else 0)) : Int32)) i1 (4 : Int32)))) + (2 : Int32)) 769 ∧ True))) ∧ (¬ (V_198 (mx_wi h 381 0 ((if (V_201 h i1) = 0 then 1 else (if (V_191 h i2 (0 : Int32) (5 : Int32)) = 0 then 2 else 0)) : Int32)) i1 (3 : Int32)) = 0 → (((V_198 (mx_wi h 381 0 ((if (V_201 h i1) = 0 then 1 else (if (V_191 h i2 (0 : Int32) (5 : Int32)) = 0 then 2 else 0)) : Int32)) i1 (3 : Int32)) = 1 → (vp_in ((69 + (6 * i1)) + (5 : Int32)) 769 ∧ True)) ∧ (¬ (V_198 (mx_wi h 381 0 ((if (V_201 h i1) = 0 then 1 else (if (V_191 h i2 (0 : Int32) (5 : Int32)) = 0 then 2 else 0)) : Int32)) i1 (3 : Int32)) = 1 → True)))) ∧ True))))))))) (k : Q (.inl (some (.int (V_246 h i1 i2)))) (W_246 h i1 i2)) : mx_wp (d + 2) 246 0 (mx_fr 246 [.ref 381, .int i1, .int i2]) [] h Q := by
  unfold V_246 W_246 at k
  have hob : (((V_191 h i1 (0 : Int32) ((mx_i h 382 4) - 1)) = 0 ∨ (V_191 h i1 (0 : Int32) ((mx_i h 382 4) - 1)) = 1) ∧ ((0 < (mx_i (mx_wi h 381 0 ((if (V_201 h i1) = 0 then 1 else (if (V_191 h i2 (0 : Int32) (5 : Int32)) = 0 then 2 else 0)) : Int32)) 381 0) → True) ∧ (¬ 0 < (mx_i (mx_wi h 381 0 ((if (V_201 h i1) = 0 then 1 else (if (V_191 h i2 (0 : Int32) (5 : Int32)) = 0 then 2 else 0)) : Int32)) 381 0) → (vp_in ((69 + (6 * i1)) + (3 : Int32)) 769 ∧ ((i2 < 4 → (vp_in ((69 + (6 * i1)) + i2) 769 ∧ True)) ∧ (¬ i2 < 4 → ((i2 = 4 → ((((V_198 (mx_wi h 381 0 ((if (V_201 h i1) = 0 then 1 else (if (V_191 h i2 (0 : Int32) (5 : Int32)) = 0 then 2 else 0)) : Int32)) i1 (3 : Int32)) = 0 → (vp_in ((69 + (6 * i1)) + (4 : Int32)) 769 ∧ True)) ∧ (¬ (V_198 (mx_wi h 381 0 ((if (V_201 h i1) = 0 then 1 else (if (V_191 h i2 (0 : Int32) (5 : Int32)) = 0 then 2 else 0)) : Int32)) i1 (3 : Int32)) = 0 → True)) ∧ True)) ∧ (¬ i2 = 4 → ((((V_198 (mx_wi h 381 0 ((if (V_201 h i1) = 0 then 1 else (if (V_191 h i2 (0 : Int32) (5 : Int32)) = 0 then 2 else 0)) : Int32)) i1 (3 : Int32)) = 0 → (vp_in ((69 + (6 * i1)) + (4 : Int32)) 769 ∧ (vp_in ((33 + (6 * (V_198 (mx_wi h 381 0 ((if (V_201 h i1) = 0 then 1 else (if (V_191 h i2 (0 : Int32) (5 : Int32)) = 0 then 2 else 0)) : Int32)) i1 (4 : Int32)))) + (2 : Int32)) 769 ∧ True))) ∧ (¬ (V_198 (mx_wi h 381 0 ((if (V_201 h i1) = 0 then 1 else (if (V_191 h i2 (0 : Int32) (5 : Int32)) = 0 then 2 else 0)) : Int32)) i1 (3 : Int32)) = 0 → (((V_198 (mx_wi h 381 0 ((if (V_201 h i1) = 0 then 1 else (if (V_191 h i2 (0 : Int32) (5 : Int32)) = 0 then 2 else 0)) : Int32)) i1 (3 : Int32)) = 1 → (vp_in ((69 + (6 * i1)) + (5 : Int32)) 769 ∧ True)) ∧ (¬ (V_198 (mx_wi h 381 0 ((if (V_201 h i1) = 0 then 1 else (if (V_191 h i2 (0 : Int32) (5 : Int32)) = 0 then 2 else 0)) : Int32)) i1 (3 : Int32)) = 1 → True)))) ∧ True))))))))) := ⟨x0, x1⟩
  refine tr_246_0 G  ?_
  obtain ⟨q0, hob⟩ := hob
  refine ⟨q0, ?_⟩
  intro v2 ev2
  subst ev2
  intro h3 eh3
  subst eh3
  refine ⟨fun c9 => ?_, fun c9 => ?_⟩
  · try simp only [if_pos c9] at k
    have hob := hob.1 c9
    exact k
  · try simp only [if_neg c9] at k
    have hob := hob.2 c9
    obtain ⟨q0, hob⟩ := hob
    refine ⟨q0, ?_⟩
    refine ⟨fun c9 => ?_, fun c9 => ?_⟩
    · try simp only [if_pos c9] at k
      have hob := hob.1 c9
      obtain ⟨q0, hob⟩ := hob
      refine ⟨q0, ?_⟩
      exact k
    · try simp only [if_neg c9] at k
      have hob := hob.2 c9
      refine ⟨fun c9 => ?_, fun c9 => ?_⟩
      · try simp only [if_pos c9] at k
        have hob := hob.1 c9
        obtain ⟨q0, hob⟩ := hob
        refine ⟨q0, ?_⟩
        intro v16 ev16
        subst ev16
        exact k
      · try simp only [if_neg c9] at k
        have hob := hob.2 c9
        obtain ⟨q0, hob⟩ := hob
        refine ⟨q0, ?_⟩
        intro v10 ev10
        subst ev10
        exact k
/-! 247: StoneBacksModel.thoseAt(I)I -/
def H_247_4 (d : Nat) (h : mxH) (i1 : Int32) (i2 : Int32) (i3 : Int32) (Q : mxO → mxH → Prop) : Prop := mx_wp d 247 4 [some (.ref 381), some (.int i1), some (.int i2), some (.int i3)] [] h Q
set_option maxRecDepth 8000 in
theorem tr_247_0 {d : Nat} {h : mxH} {Q : mxO → mxH → Prop} {i1 : Int32} (G : mxG h)  (H : H_247_4 (d + 1) h i1 0 0 Q) : mx_wp (d + 1) 247 0 (mx_fr 247 [.ref 381, .int i1]) [] h Q := by
  show mx_wp (d + 1) 247 0 [some (.ref 381), some (.int i1), none, none] [] h Q
  refine wp_steps (i' := 4) (ls' := [some (.ref 381), some (.int i1), some (.int 0), some (.int 0)]) (st' := []) (h' := h) (P := True) 4 rfl rfl trivial ?_
  exact H 
set_option maxRecDepth 8000 in
theorem tr_247_4 {d : Nat} {h : mxH} {Q : mxO → mxH → Prop}  {i1 : Int32} {i2 : Int32} {i3 : Int32} (G : mxG h)  (H : ((i3 < (mx_i h 382 3) → (vp_in ((33 + (6 * i3)) + (2 : Int32)) 769 ∧ (∀ (v3 : Int32), v3 = (if (V_196 h i3 (2 : Int32)) = i1 then (1 <<< (i3 &&& 31)) else 0) → H_247_4 (d + 1) h i1 (i2 ||| v3) (i3 + 1) Q))) ∧ (¬ i3 < (mx_i h 382 3) → Q (.inl (some (.int i2))) h))) : H_247_4 (d + 1) h i1 i2 i3 Q := by
  show mx_wp (d + 1) 247 4 [some (.ref 381), some (.int i1), some (.int i2), some (.int i3)] [] h Q
  refine wp_steps (i' := 9) (ls' := [some (.ref 381), some (.int i1), some (.int i2), some (.int i3)]) (st' := [.int (mx_i h 382 3), .int i3]) (h' := h) (P := ((mxT 381).1 = 11 ∧ mxG h) ∧ (((mxT 382).1 = 50 ∧ mxG h) ∧ vp_in 3 (mxT 382).2) ∧ True) 5 rfl rfl ⟨⟨(congrArg Prod.fst sT_381), G⟩, (cA sT_382 G (vpl rfl)), trivial⟩ ?_
  refine wp_br (P := True) (c := (mx_i h 382 3) ≤ i3) (t := 26) (st' := []) rfl rfl trivial (fun c1 => ?_) (fun c1 => ?_)
  · have c1 := Int32.not_lt.mpr c1
    have H := H.2 c1
    refine wp_steps (i' := 27) (ls' := [some (.ref 381), some (.int i1), some (.int i2), some (.int i3)]) (st' := [.int i2]) (h' := h) (P := True) 1 rfl rfl trivial ?_
    exact wp_end (o := .inl (some (.int i2))) (h' := h) (P := True) rfl rfl trivial H
  · have c1 := Int32.not_le.mp c1
    have H := H.1 c1
    refine wp_steps (i' := 14) (ls' := [some (.ref 381), some (.int i1), some (.int i2), some (.int i3)]) (st' := [.int 2, .int i3, .ref 381, .int i2]) (h' := h) (P := True) 4 rfl rfl trivial ?_
    obtain ⟨o2, H⟩ := H
    refine wp_call (b := false) (y' := 196) (as := [.ref 381, .int i3, .int 2]) (rest := [.int i2]) (P := ((mxT 381).1 = mxRc 196 ∧ mxG h)) rfl (by with_unfolding_all rfl) ⟨(congrArg Prod.fst sT_381), G⟩ (Nat.le_of_ble_eq_true rfl) (sp_196 G o2 ?_)
    show mx_wp (d + 1) 247 15 [some (.ref 381), some (.int i1), some (.int i2), some (.int i3)] [.int (V_196 h i3 (2 : Int32)), .int i2] h Q
    refine wp_steps (i' := 16) (ls' := [some (.ref 381), some (.int i1), some (.int i2), some (.int i3)]) (st' := [.int i1, .int (V_196 h i3 (2 : Int32)), .int i2]) (h' := h) (P := True) 1 rfl rfl trivial ?_
    have J : ∀ (v3 : Int32) (ev3 : v3 = (if (V_196 h i3 (2 : Int32)) = i1 then (1 <<< (i3 &&& 31)) else 0)), mx_wp (d + 1) 247 22 [some (.ref 381), some (.int i1), some (.int i2), some (.int i3)] [.int v3, .int i2] h Q := by
      intro v3 ev3
      have H := H v3 ev3
      refine wp_steps (i' := 25) (ls' := [some (.ref 381), some (.int i1), some (.int (i2 ||| v3)), some (.int (i3 + 1))]) (st' := []) (h' := h) (P := True) 3 rfl rfl trivial ?_
      refine wp_J (j := 4) (st' := []) rfl rfl ?_
      exact H 
    refine wp_br (P := True) (c := ¬ (V_196 h i3 (2 : Int32)) = i1) (t := 21) (st' := [.int i2]) rfl rfl trivial (fun c4 => ?_) (fun c4 => ?_)
    · skip
      refine wp_steps (i' := 22) (ls' := [some (.ref 381), some (.int i1), some (.int i2), some (.int i3)]) (st' := [.int 0, .int i2]) (h' := h) (P := True) 1 rfl rfl trivial ?_
      exact J _ (by rw [if_neg c4])
    · have c4 := Decidable.of_not_not c4
      refine wp_steps (i' := 20) (ls' := [some (.ref 381), some (.int i1), some (.int i2), some (.int i3)]) (st' := [.int (1 <<< (i3 &&& 31)), .int i2]) (h' := h) (P := True) 3 rfl rfl trivial ?_
      refine wp_J (j := 22) (st' := [.int (1 <<< (i3 &&& 31)), .int i2]) rfl rfl ?_
      exact J _ (by rw [if_pos c4])
def F_247_4 (h : mxH) (i1 : Int32) (z : Nat) (s : Int32) : Int32 := (s ||| ((if (V_196 h (nI z) (2 : Int32)) = i1 then (1 <<< ((nI z) &&& 31)) else 0) : Int32))
theorem lp_247_4 {d : Nat} {h : mxH} {Q : mxO → mxH → Prop} {i1 : Int32} {s0 : Int32} {n : Nat} (z0 : Nat) (G : mxG h)  (hB : (mx_i h 382 3) = nI n) (hn : n < 2147483648) (hz : z0 ≤ n) (ob : ∀ z, z0 ≤ z → z < n → (vp_in ((33 + (6 * (nI z))) + (2 : Int32)) 769 ∧ True)) (k : Q (.inl (some (.int (fz (F_247_4 h i1) z0 n s0)))) h) : H_247_4 (d + 1) h i1 s0 (nI z0) Q := by
  have L : ∀ (j z : Nat), z0 ≤ z → z + j = n → H_247_4 (d + 1) h i1 (fz (F_247_4 h i1) z0 z s0) (nI z) Q := by
    intro j
    induction j with
    | zero =>
      intro z hz0 hzn
      have hzn : z = n := by omega
      subst hzn
      refine tr_247_4 G  ⟨fun c9 => absurd (hB ▸ c9) Int32.lt_irrefl, fun c9 => k⟩
    | succ j ih =>
      intro z hz0 hzn
      have hih := ih (z + 1) (by omega) (by omega)
      rw [nI_succ, fz_s hz0] at hih
      have hob := ob z hz0 (by omega)
      refine tr_247_4 G  ⟨fun c9 => ?_, fun c9 => absurd (hB.symm ▸ nI_lt (by omega) hn) c9⟩
      obtain ⟨q0, hob⟩ := hob
      refine ⟨q0, ?_⟩
      intro v3 ev3
      subst ev3
      exact hih
  have L0 := L (n - z0) z0 (Nat.le_refl _) (by omega)
  simp only [fz_0] at L0
  exact L0
/-! 248: StoneBacksModel.stonesAt(I)I -/
def H_248_4 (d : Nat) (h : mxH) (i1 : Int32) (i2 : Int32) (i3 : Int32) (Q : mxO → mxH → Prop) : Prop := mx_wp d 248 4 [some (.ref 381), some (.int i1), some (.int i2), some (.int i3)] [] h Q
set_option maxRecDepth 8000 in
theorem tr_248_0 {d : Nat} {h : mxH} {Q : mxO → mxH → Prop} {i1 : Int32} (G : mxG h)  (H : H_248_4 (d + 1) h i1 0 0 Q) : mx_wp (d + 1) 248 0 (mx_fr 248 [.ref 381, .int i1]) [] h Q := by
  show mx_wp (d + 1) 248 0 [some (.ref 381), some (.int i1), none, none] [] h Q
  refine wp_steps (i' := 4) (ls' := [some (.ref 381), some (.int i1), some (.int 0), some (.int 0)]) (st' := []) (h' := h) (P := True) 4 rfl rfl trivial ?_
  exact H 
set_option maxRecDepth 8000 in
theorem tr_248_4 {d : Nat} {h : mxH} {Q : mxO → mxH → Prop}  {i1 : Int32} {i2 : Int32} {i3 : Int32} (G : mxG h)  (H : ((i3 < (mx_i h 382 4) → (vp_in ((69 + (6 * i3)) + (3 : Int32)) 769 ∧ ((((V_198 h i3 (3 : Int32)) = 1 → (vp_in ((69 + (6 * i3)) + (5 : Int32)) 769 ∧ True)) ∧ (¬ (V_198 h i3 (3 : Int32)) = 1 → True)) ∧ (∀ (v3 : Int32), v3 = (if (V_198 h i3 (3 : Int32)) = 1 then (if (V_198 h i3 (5 : Int32)) = i1 then (1 <<< (i3 &&& 31)) else 0) else 0) → H_248_4 (d + 1) h i1 (i2 ||| v3) (i3 + 1) Q)))) ∧ (¬ i3 < (mx_i h 382 4) → Q (.inl (some (.int i2))) h))) : H_248_4 (d + 1) h i1 i2 i3 Q := by
  show mx_wp (d + 1) 248 4 [some (.ref 381), some (.int i1), some (.int i2), some (.int i3)] [] h Q
  refine wp_steps (i' := 9) (ls' := [some (.ref 381), some (.int i1), some (.int i2), some (.int i3)]) (st' := [.int (mx_i h 382 4), .int i3]) (h' := h) (P := ((mxT 381).1 = 11 ∧ mxG h) ∧ (((mxT 382).1 = 50 ∧ mxG h) ∧ vp_in 4 (mxT 382).2) ∧ True) 5 rfl rfl ⟨⟨(congrArg Prod.fst sT_381), G⟩, (cA sT_382 G (vpl rfl)), trivial⟩ ?_
  refine wp_br (P := True) (c := (mx_i h 382 4) ≤ i3) (t := 32) (st' := []) rfl rfl trivial (fun c1 => ?_) (fun c1 => ?_)
  · have c1 := Int32.not_lt.mpr c1
    have H := H.2 c1
    refine wp_steps (i' := 33) (ls' := [some (.ref 381), some (.int i1), some (.int i2), some (.int i3)]) (st' := [.int i2]) (h' := h) (P := True) 1 rfl rfl trivial ?_
    exact wp_end (o := .inl (some (.int i2))) (h' := h) (P := True) rfl rfl trivial H
  · have c1 := Int32.not_le.mp c1
    have H := H.1 c1
    refine wp_steps (i' := 14) (ls' := [some (.ref 381), some (.int i1), some (.int i2), some (.int i3)]) (st' := [.int 3, .int i3, .ref 381, .int i2]) (h' := h) (P := True) 4 rfl rfl trivial ?_
    obtain ⟨o2, H⟩ := H
    refine wp_call (b := false) (y' := 198) (as := [.ref 381, .int i3, .int 3]) (rest := [.int i2]) (P := ((mxT 381).1 = mxRc 198 ∧ mxG h)) rfl (by with_unfolding_all rfl) ⟨(congrArg Prod.fst sT_381), G⟩ (Nat.le_of_ble_eq_true rfl) (sp_198 G o2 ?_)
    show mx_wp (d + 1) 248 15 [some (.ref 381), some (.int i1), some (.int i2), some (.int i3)] [.int (V_198 h i3 (3 : Int32)), .int i2] h Q
    refine wp_steps (i' := 16) (ls' := [some (.ref 381), some (.int i1), some (.int i2), some (.int i3)]) (st' := [.int 1, .int (V_198 h i3 (3 : Int32)), .int i2]) (h' := h) (P := True) 1 rfl rfl trivial ?_
    have J : ∀ (v3 : Int32) (ev3 : v3 = (if (V_198 h i3 (3 : Int32)) = 1 then (if (V_198 h i3 (5 : Int32)) = i1 then (1 <<< (i3 &&& 31)) else 0) else 0)), mx_wp (d + 1) 248 28 [some (.ref 381), some (.int i1), some (.int i2), some (.int i3)] [.int v3, .int i2] h Q := by
      intro v3 ev3
      have H := H.2 v3 ev3
      refine wp_steps (i' := 31) (ls' := [some (.ref 381), some (.int i1), some (.int (i2 ||| v3)), some (.int (i3 + 1))]) (st' := []) (h' := h) (P := True) 3 rfl rfl trivial ?_
      refine wp_J (j := 4) (st' := []) rfl rfl ?_
      exact H 
    have H := H.1
    refine wp_br (P := True) (c := ¬ (V_198 h i3 (3 : Int32)) = 1) (t := 27) (st' := [.int i2]) rfl rfl trivial (fun c4 => ?_) (fun c4 => ?_)
    · skip
      refine wp_steps (i' := 28) (ls' := [some (.ref 381), some (.int i1), some (.int i2), some (.int i3)]) (st' := [.int 0, .int i2]) (h' := h) (P := True) 1 rfl rfl trivial ?_
      exact J _ (by rw [if_neg c4])
    · have c4 := Decidable.of_not_not c4
      have H := H.1 c4
      refine wp_steps (i' := 20) (ls' := [some (.ref 381), some (.int i1), some (.int i2), some (.int i3)]) (st' := [.int 5, .int i3, .ref 381, .int i2]) (h' := h) (P := True) 3 rfl rfl trivial ?_
      obtain ⟨o5, H⟩ := H
      refine wp_call (b := false) (y' := 198) (as := [.ref 381, .int i3, .int 5]) (rest := [.int i2]) (P := ((mxT 381).1 = mxRc 198 ∧ mxG h)) rfl (by with_unfolding_all rfl) ⟨(congrArg Prod.fst sT_381), G⟩ (Nat.le_of_ble_eq_true rfl) (sp_198 G o5 ?_)
      show mx_wp (d + 1) 248 21 [some (.ref 381), some (.int i1), some (.int i2), some (.int i3)] [.int (V_198 h i3 (5 : Int32)), .int i2] h Q
      refine wp_steps (i' := 22) (ls' := [some (.ref 381), some (.int i1), some (.int i2), some (.int i3)]) (st' := [.int i1, .int (V_198 h i3 (5 : Int32)), .int i2]) (h' := h) (P := True) 1 rfl rfl trivial ?_
      refine wp_br (P := True) (c := ¬ (V_198 h i3 (5 : Int32)) = i1) (t := 27) (st' := [.int i2]) rfl rfl trivial (fun c6 => ?_) (fun c6 => ?_)
      · skip
        refine wp_steps (i' := 28) (ls' := [some (.ref 381), some (.int i1), some (.int i2), some (.int i3)]) (st' := [.int 0, .int i2]) (h' := h) (P := True) 1 rfl rfl trivial ?_
        exact J _ (by rw [if_pos c4, if_neg c6])
      · have c6 := Decidable.of_not_not c6
        refine wp_steps (i' := 26) (ls' := [some (.ref 381), some (.int i1), some (.int i2), some (.int i3)]) (st' := [.int (1 <<< (i3 &&& 31)), .int i2]) (h' := h) (P := True) 3 rfl rfl trivial ?_
        refine wp_J (j := 28) (st' := [.int (1 <<< (i3 &&& 31)), .int i2]) rfl rfl ?_
        exact J _ (by rw [if_pos c4, if_pos c6])
def F_248_4 (h : mxH) (i1 : Int32) (z : Nat) (s : Int32) : Int32 := (s ||| ((if (V_198 h (nI z) (3 : Int32)) = 1 then (if (V_198 h (nI z) (5 : Int32)) = i1 then (1 <<< ((nI z) &&& 31)) else 0) else 0) : Int32))
theorem lp_248_4 {d : Nat} {h : mxH} {Q : mxO → mxH → Prop} {i1 : Int32} {s0 : Int32} {n : Nat} (z0 : Nat) (G : mxG h)  (hB : (mx_i h 382 4) = nI n) (hn : n < 2147483648) (hz : z0 ≤ n) (ob : ∀ z, z0 ≤ z → z < n → (vp_in ((69 + (6 * (nI z))) + (3 : Int32)) 769 ∧ ((((V_198 h (nI z) (3 : Int32)) = 1 → (vp_in ((69 + (6 * (nI z))) + (5 : Int32)) 769 ∧ True)) ∧ (¬ (V_198 h (nI z) (3 : Int32)) = 1 → True)) ∧ True))) (k : Q (.inl (some (.int (fz (F_248_4 h i1) z0 n s0)))) h) : H_248_4 (d + 1) h i1 s0 (nI z0) Q := by
  have L : ∀ (j z : Nat), z0 ≤ z → z + j = n → H_248_4 (d + 1) h i1 (fz (F_248_4 h i1) z0 z s0) (nI z) Q := by
    intro j
    induction j with
    | zero =>
      intro z hz0 hzn
      have hzn : z = n := by omega
      subst hzn
      refine tr_248_4 G  ⟨fun c9 => absurd (hB ▸ c9) Int32.lt_irrefl, fun c9 => k⟩
    | succ j ih =>
      intro z hz0 hzn
      have hih := ih (z + 1) (by omega) (by omega)
      rw [nI_succ, fz_s hz0] at hih
      have hob := ob z hz0 (by omega)
      refine tr_248_4 G  ⟨fun c9 => ?_, fun c9 => absurd (hB.symm ▸ nI_lt (by omega) hn) c9⟩
      obtain ⟨q0, hob⟩ := hob
      refine ⟨q0, ?_⟩
      obtain ⟨q0, hob⟩ := hob
      refine ⟨q0, ?_⟩
      intro v3 ev3
      subst ev3
      exact hih
  have L0 := L (n - z0) z0 (Nat.le_refl _) (by omega)
  simp only [fz_0] at L0
  exact L0
/-! 250: StoneBacksModel.remembers()V -/
def H_250_6 (d : Nat) (h : mxH) (i1 : Int32) (Q : mxO → mxH → Prop) : Prop := mx_wp d 250 6 [some (.ref 381), some (.int i1)] [] h Q
def H_250_29 (d : Nat) (h : mxH) (i1 : Int32) (Q : mxO → mxH → Prop) : Prop := mx_wp d 250 29 [some (.ref 381), some (.int i1)] [] h Q
set_option maxRecDepth 8000 in
theorem tr_250_0 {d : Nat} {h : mxH} {Q : mxO → mxH → Prop}  (G : mxG h)  (H : (((mx_i h 381 6) = 12 → H_250_6 d h 0 Q) ∧ (¬ (mx_i h 381 6) = 12 → H_250_29 d h 0 Q))) : mx_wp d 250 0 (mx_fr 250 [.ref 381]) [] h Q := by
  show mx_wp d 250 0 [some (.ref 381), none] [] h Q
  refine wp_steps (i' := 3) (ls' := [some (.ref 381), none]) (st' := [.int 12, .int (mx_i h 381 6)]) (h' := h) (P := ((mxT 381).1 = 11 ∧ mxG h) ∧ True) 3 rfl rfl ⟨⟨(congrArg Prod.fst sT_381), G⟩, trivial⟩ ?_
  refine wp_br (P := True) (c := ¬ (mx_i h 381 6) = 12) (t := 27) (st' := []) rfl rfl trivial (fun c1 => ?_) (fun c1 => ?_)
  · skip
    have H := H.2 c1
    refine wp_steps (i' := 29) (ls' := [some (.ref 381), some (.int 0)]) (st' := []) (h' := h) (P := True) 2 rfl rfl trivial ?_
    exact H 
  · have c1 := Decidable.of_not_not c1
    have H := H.1 c1
    refine wp_steps (i' := 6) (ls' := [some (.ref 381), some (.int 0)]) (st' := []) (h' := h) (P := True) 2 rfl rfl trivial ?_
    exact H 
set_option maxRecDepth 8000 in
theorem tr_250_6 {d : Nat} {h : mxH} {Q : mxO → mxH → Prop}  {i1 : Int32} (G : mxG h)  (H : ((i1 < 4059 → (vp_in (i1 + 369) 4428 ∧ vp_in i1 4428 ∧ (∀ h7, h7 = mx_wi h 385 i1.toNatClampNeg (mx_i h 385 (i1 + 369).toNatClampNeg) → H_250_6 d h7 (i1 + 1) Q))) ∧ (¬ i1 < 4059 → (∀ h2, h2 = mx_wi h 381 6 ((mx_i h 381 6) - 1) → H_250_29 d h2 0 Q)))) : H_250_6 d h i1 Q := by
  show mx_wp d 250 6 [some (.ref 381), some (.int i1)] [] h Q
  refine wp_steps (i' := 8) (ls' := [some (.ref 381), some (.int i1)]) (st' := [.int 4059, .int i1]) (h' := h) (P := True) 2 rfl rfl trivial ?_
  refine wp_br (P := True) (c := 4059 ≤ i1) (t := 21) (st' := []) rfl rfl trivial (fun c1 => ?_) (fun c1 => ?_)
  · have c1 := Int32.not_lt.mpr c1
    have H := H.2 c1
    refine wp_steps (i' := 27) (ls' := [some (.ref 381), some (.int i1)]) (st' := []) (h' := mx_wi h 381 6 ((mx_i h 381 6) - 1)) (P := ((mxT 381).1 = 11 ∧ mxG h) ∧ ((mxT 381).1 = 11 ∧ mxG h) ∧ True) 6 rfl rfl ⟨⟨(congrArg Prod.fst sT_381), G⟩, ⟨(congrArg Prod.fst sT_381), G⟩, trivial⟩ ?_
    obtain ⟨h2, e3⟩ : ∃ z9, z9 = mx_wi h 381 6 ((mx_i h 381 6) - 1) := ⟨_, rfl⟩
    rw [← e3]
    have H := H h2 e3
    have G4 : mxG h2 := e3 ▸ mxG_wi G
    refine wp_steps (i' := 29) (ls' := [some (.ref 381), some (.int 0)]) (st' := []) (h' := h2) (P := True) 2 rfl rfl trivial ?_
    exact H 
  · have c1 := Int32.not_le.mp c1
    have H := H.1 c1
    obtain ⟨o5, o6, H⟩ := H
    refine wp_steps (i' := 19) (ls' := [some (.ref 381), some (.int i1)]) (st' := []) (h' := mx_wi h 385 i1.toNatClampNeg (mx_i h 385 (i1 + 369).toNatClampNeg)) (P := ((mxT 381).1 = 11 ∧ mxG h) ∧ ((mxT 381).1 = 11 ∧ mxG h) ∧ (((mxT 385).1 = 50 ∧ mxG h) ∧ vp_in (i1 + 369) (mxT 385).2) ∧ (((mxT 385).1 = 50 ∧ mxG h) ∧ vp_in i1 (mxT 385).2) ∧ True) 10 rfl rfl ⟨⟨(congrArg Prod.fst sT_381), G⟩, ⟨(congrArg Prod.fst sT_381), G⟩, (cA sT_385 G o5), (cA sT_385 G o6), trivial⟩ ?_
    obtain ⟨h7, e8⟩ : ∃ z9, z9 = mx_wi h 385 i1.toNatClampNeg (mx_i h 385 (i1 + 369).toNatClampNeg) := ⟨_, rfl⟩
    rw [← e8]
    have H := H h7 e8
    have G9 : mxG h7 := e8 ▸ mxG_wi G
    refine wp_steps (i' := 20) (ls' := [some (.ref 381), some (.int (i1 + 1))]) (st' := []) (h' := h7) (P := True) 1 rfl rfl trivial ?_
    refine wp_J (j := 6) (st' := []) rfl rfl ?_
    exact H 
set_option maxRecDepth 8000 in
theorem tr_250_29 {d : Nat} {h : mxH} {Q : mxO → mxH → Prop}  {i1 : Int32} (G : mxG h)  (H : ((i1 < 369 → (vp_in i1 769 ∧ vp_in ((369 * (mx_i h 381 6)) + i1) 4428 ∧ (∀ h7, h7 = mx_wi h 385 ((369 * (mx_i h 381 6)) + i1).toNatClampNeg (mx_i h 382 i1.toNatClampNeg) → H_250_29 d h7 (i1 + 1) Q))) ∧ (¬ i1 < 369 → (∀ h2, h2 = mx_wi h 381 6 ((mx_i h 381 6) + 1) → Q (.inl none) h2)))) : H_250_29 d h i1 Q := by
  show mx_wp d 250 29 [some (.ref 381), some (.int i1)] [] h Q
  refine wp_steps (i' := 31) (ls' := [some (.ref 381), some (.int i1)]) (st' := [.int 369, .int i1]) (h' := h) (P := True) 2 rfl rfl trivial ?_
  refine wp_br (P := True) (c := 369 ≤ i1) (t := 47) (st' := []) rfl rfl trivial (fun c1 => ?_) (fun c1 => ?_)
  · have c1 := Int32.not_lt.mpr c1
    have H := H.2 c1
    refine wp_steps (i' := 53) (ls' := [some (.ref 381), some (.int i1)]) (st' := []) (h' := mx_wi h 381 6 ((mx_i h 381 6) + 1)) (P := ((mxT 381).1 = 11 ∧ mxG h) ∧ ((mxT 381).1 = 11 ∧ mxG h) ∧ True) 6 rfl rfl ⟨⟨(congrArg Prod.fst sT_381), G⟩, ⟨(congrArg Prod.fst sT_381), G⟩, trivial⟩ ?_
    obtain ⟨h2, e3⟩ : ∃ z9, z9 = mx_wi h 381 6 ((mx_i h 381 6) + 1) := ⟨_, rfl⟩
    rw [← e3]
    have H := H h2 e3
    have G4 : mxG h2 := e3 ▸ mxG_wi G
    exact wp_end (o := .inl none) (h' := h2) (P := True) rfl rfl trivial H
  · have c1 := Int32.not_le.mp c1
    have H := H.1 c1
    obtain ⟨o5, o6, H⟩ := H
    refine wp_steps (i' := 45) (ls' := [some (.ref 381), some (.int i1)]) (st' := []) (h' := mx_wi h 385 ((369 * (mx_i h 381 6)) + i1).toNatClampNeg (mx_i h 382 i1.toNatClampNeg)) (P := ((mxT 381).1 = 11 ∧ mxG h) ∧ ((mxT 381).1 = 11 ∧ mxG h) ∧ ((mxT 381).1 = 11 ∧ mxG h) ∧ (((mxT 382).1 = 50 ∧ mxG h) ∧ vp_in i1 (mxT 382).2) ∧ (((mxT 385).1 = 50 ∧ mxG h) ∧ vp_in ((369 * (mx_i h 381 6)) + i1) (mxT 385).2) ∧ True) 13 rfl rfl ⟨⟨(congrArg Prod.fst sT_381), G⟩, ⟨(congrArg Prod.fst sT_381), G⟩, ⟨(congrArg Prod.fst sT_381), G⟩, (cA sT_382 G o5), (cA sT_385 G o6), trivial⟩ ?_
    obtain ⟨h7, e8⟩ : ∃ z9, z9 = mx_wi h 385 ((369 * (mx_i h 381 6)) + i1).toNatClampNeg (mx_i h 382 i1.toNatClampNeg) := ⟨_, rfl⟩
    rw [← e8]
    have H := H h7 e8
    have G9 : mxG h7 := e8 ▸ mxG_wi G
    refine wp_steps (i' := 46) (ls' := [some (.ref 381), some (.int (i1 + 1))]) (st' := []) (h' := h7) (P := True) 1 rfl rfl trivial ?_
    refine wp_J (j := 29) (st' := []) rfl rfl ?_
    exact H 
def F_250_6 (z : Nat) (s : mxH) : mxH := (mx_wi s 385 (nI z).toNatClampNeg (mx_i s 385 ((nI z) + 369).toNatClampNeg))
theorem K_250_6 (z : Nat) (s : mxH) : mxK s (F_250_6 z s) := by
  unfold F_250_6
  (try simp only []); repeat' (first | with_reducible exact mxK_rfl | with_reducible exact mxK_wi | with_reducible exact mxK_wrow | with_reducible refine mxK_ite ?_ ?_ | with_reducible refine mxK_tr ?_ mxK_wi | with_reducible refine mxK_tr ?_ mxK_wrow)
theorem lp_250_6 {d : Nat} {Q : mxO → mxH → Prop} {s0 : mxH} {n : Nat} (z0 : Nat) (G : mxG s0)  (hB : ∀ z, z0 ≤ z → z ≤ n → (4059 : Int32) = nI n) (hn : n < 2147483648) (hz : z0 ≤ n) (ob : ∀ z, z0 ≤ z → z < n → (vp_in ((nI z) + 369) 4428 ∧ vp_in (nI z) 4428 ∧ True)) (k : (∀ h2, h2 = mx_wi (fz F_250_6 z0 n s0) 381 6 ((mx_i (fz F_250_6 z0 n s0) 381 6) - 1) → H_250_29 d h2 0 Q)) : H_250_6 d s0 (nI z0) Q := by
  have L : ∀ (j z : Nat), z0 ≤ z → z + j = n → H_250_6 d (fz F_250_6 z0 z s0) (nI z) Q := by
    intro j
    induction j with
    | zero =>
      intro z hz0 hzn
      have hzn : z = n := by omega
      subst hzn
      have Gz : mxG (fz F_250_6 z0 z s0) := mxK_G (mxK_fz (g := fun s => s) (fun z s => K_250_6 z s) z0 z s0) G
      have hBz := hB z hz0 (by omega)
      refine tr_250_6 Gz  ⟨fun c9 => absurd (hBz ▸ c9) Int32.lt_irrefl, fun c9 => k⟩
    | succ j ih =>
      intro z hz0 hzn
      have hih := ih (z + 1) (by omega) (by omega)
      rw [nI_succ, fz_s hz0] at hih
      have Gz : mxG (fz F_250_6 z0 z s0) := mxK_G (mxK_fz (g := fun s => s) (fun z s => K_250_6 z s) z0 z s0) G
      have hBz := hB z hz0 (by omega)
      have hob := ob z hz0 (by omega)
      refine tr_250_6 Gz  ⟨fun c9 => ?_, fun c9 => absurd (hBz.symm ▸ nI_lt (by omega) hn) c9⟩
      obtain ⟨q0, q1, hob⟩ := hob
      refine ⟨q0, q1, ?_⟩
      intro h7 eh7
      subst eh7
      exact hih
  have L0 := L (n - z0) z0 (Nat.le_refl _) (by omega)
  simp only [fz_0] at L0
  exact L0
def F_250_29 (z : Nat) (s : mxH) : mxH := (mx_wi s 385 ((369 * (mx_i s 381 6)) + (nI z)).toNatClampNeg (mx_i s 382 (nI z).toNatClampNeg))
theorem K_250_29 (z : Nat) (s : mxH) : mxK s (F_250_29 z s) := by
  unfold F_250_29
  (try simp only []); repeat' (first | with_reducible exact mxK_rfl | with_reducible exact mxK_wi | with_reducible exact mxK_wrow | with_reducible refine mxK_ite ?_ ?_ | with_reducible refine mxK_tr ?_ mxK_wi | with_reducible refine mxK_tr ?_ mxK_wrow)
theorem lp_250_29 {d : Nat} {Q : mxO → mxH → Prop} {s0 : mxH} {n : Nat} (z0 : Nat) (G : mxG s0)  (hB : ∀ z, z0 ≤ z → z ≤ n → (369 : Int32) = nI n) (hn : n < 2147483648) (hz : z0 ≤ n) (ob : ∀ z, z0 ≤ z → z < n → (vp_in (nI z) 769 ∧ vp_in ((369 * (mx_i (fz F_250_29 z0 z s0) 381 6)) + (nI z)) 4428 ∧ True)) (k : (∀ h2, h2 = mx_wi (fz F_250_29 z0 n s0) 381 6 ((mx_i (fz F_250_29 z0 n s0) 381 6) + 1) → Q (.inl none) h2)) : H_250_29 d s0 (nI z0) Q := by
  have L : ∀ (j z : Nat), z0 ≤ z → z + j = n → H_250_29 d (fz F_250_29 z0 z s0) (nI z) Q := by
    intro j
    induction j with
    | zero =>
      intro z hz0 hzn
      have hzn : z = n := by omega
      subst hzn
      have Gz : mxG (fz F_250_29 z0 z s0) := mxK_G (mxK_fz (g := fun s => s) (fun z s => K_250_29 z s) z0 z s0) G
      have hBz := hB z hz0 (by omega)
      refine tr_250_29 Gz  ⟨fun c9 => absurd (hBz ▸ c9) Int32.lt_irrefl, fun c9 => k⟩
    | succ j ih =>
      intro z hz0 hzn
      have hih := ih (z + 1) (by omega) (by omega)
      rw [nI_succ, fz_s hz0] at hih
      have Gz : mxG (fz F_250_29 z0 z s0) := mxK_G (mxK_fz (g := fun s => s) (fun z s => K_250_29 z s) z0 z s0) G
      have hBz := hB z hz0 (by omega)
      have hob := ob z hz0 (by omega)
      refine tr_250_29 Gz  ⟨fun c9 => ?_, fun c9 => absurd (hBz.symm ▸ nI_lt (by omega) hn) c9⟩
      obtain ⟨q0, q1, hob⟩ := hob
      refine ⟨q0, q1, ?_⟩
      intro h7 eh7
      subst eh7
      exact hih
  have L0 := L (n - z0) z0 (Nat.le_refl _) (by omega)
  simp only [fz_0] at L0
  exact L0
/-! 251: StoneBacksModel.logs(III)V -/
def H_251_2 (d : Nat) (h : mxH) (i1 : Int32) (i2 : Int32) (i3 : Int32) (i4 : Int32) (Q : mxO → mxH → Prop) : Prop := mx_wp d 251 2 [some (.ref 381), some (.int i1), some (.int i2), some (.int i3), some (.int i4)] [] h Q
set_option maxRecDepth 8000 in
theorem tr_251_0 {d : Nat} {h : mxH} {Q : mxO → mxH → Prop} {i1 : Int32} {i2 : Int32} {i3 : Int32} (G : mxG h)  (H : H_251_2 (d + 1) h i1 i2 i3 239 Q) : mx_wp (d + 1) 251 0 (mx_fr 251 [.ref 381, .int i1, .int i2, .int i3]) [] h Q := by
  show mx_wp (d + 1) 251 0 [some (.ref 381), some (.int i1), some (.int i2), some (.int i3), none] [] h Q
  refine wp_steps (i' := 2) (ls' := [some (.ref 381), some (.int i1), some (.int i2), some (.int i3), some (.int 239)]) (st' := []) (h' := h) (P := True) 2 rfl rfl trivial ?_
  exact H 
set_option maxRecDepth 8000 in
theorem tr_251_2 {d : Nat} {h : mxH} {Q : mxO → mxH → Prop}  {i1 : Int32} {i2 : Int32} {i3 : Int32} {i4 : Int32} (G : mxG h)  (H : ((i4 < 4 → (∀ h2, h2 = mx_wi h 382 129 (mx_i h 382 5) → (∀ h5, h5 = mx_wi h2 382 130 i1 → (∀ h8, h8 = mx_wi h5 382 131 i2 → (∀ h11, h11 = mx_wi h8 382 132 i3 → (∀ h14, h14 = mx_wi h11 382 7 (V_192 h11 (60 : Int32) ((mx_i h11 382 7) + 1)) → Q (.inl none) h14)))))) ∧ (¬ i4 < 4 → (vp_in ((129 + i4) - 4) 769 ∧ vp_in (129 + i4) 769 ∧ (∀ h19, h19 = mx_wi h 382 (129 + i4).toNatClampNeg (mx_i h 382 ((129 + i4) - 4).toNatClampNeg) → H_251_2 (d + 1) h19 i1 i2 i3 (i4 + (-1)) Q))))) : H_251_2 (d + 1) h i1 i2 i3 i4 Q := by
  show mx_wp (d + 1) 251 2 [some (.ref 381), some (.int i1), some (.int i2), some (.int i3), some (.int i4)] [] h Q
  refine wp_steps (i' := 4) (ls' := [some (.ref 381), some (.int i1), some (.int i2), some (.int i3), some (.int i4)]) (st' := [.int 4, .int i4]) (h' := h) (P := True) 2 rfl rfl trivial ?_
  refine wp_br (P := True) (c := i4 < 4) (t := 21) (st' := []) rfl rfl trivial (fun c1 => ?_) (fun c1 => ?_)
  · skip
    have H := H.1 c1
    refine wp_steps (i' := 29) (ls' := [some (.ref 381), some (.int i1), some (.int i2), some (.int i3), some (.int i4)]) (st' := []) (h' := mx_wi h 382 129 (mx_i h 382 5)) (P := ((mxT 381).1 = 11 ∧ mxG h) ∧ ((mxT 381).1 = 11 ∧ mxG h) ∧ (((mxT 382).1 = 50 ∧ mxG h) ∧ vp_in 5 (mxT 382).2) ∧ (((mxT 382).1 = 50 ∧ mxG h) ∧ vp_in 129 (mxT 382).2) ∧ True) 8 rfl rfl ⟨⟨(congrArg Prod.fst sT_381), G⟩, ⟨(congrArg Prod.fst sT_381), G⟩, (cA sT_382 G (vpl rfl)), (cA sT_382 G (vpl rfl)), trivial⟩ ?_
    obtain ⟨h2, e3⟩ : ∃ z9, z9 = mx_wi h 382 129 (mx_i h 382 5) := ⟨_, rfl⟩
    rw [← e3]
    have H := H h2 e3
    have G4 : mxG h2 := e3 ▸ mxG_wi G
    refine wp_steps (i' := 34) (ls' := [some (.ref 381), some (.int i1), some (.int i2), some (.int i3), some (.int i4)]) (st' := []) (h' := mx_wi h2 382 130 i1) (P := ((mxT 381).1 = 11 ∧ mxG h2) ∧ (((mxT 382).1 = 50 ∧ mxG h2) ∧ vp_in 130 (mxT 382).2) ∧ True) 5 rfl rfl ⟨⟨(congrArg Prod.fst sT_381), G4⟩, (cA sT_382 G4 (vpl rfl)), trivial⟩ ?_
    obtain ⟨h5, e6⟩ : ∃ z9, z9 = mx_wi h2 382 130 i1 := ⟨_, rfl⟩
    rw [← e6]
    have H := H h5 e6
    have G7 : mxG h5 := e6 ▸ mxG_wi G4
    refine wp_steps (i' := 39) (ls' := [some (.ref 381), some (.int i1), some (.int i2), some (.int i3), some (.int i4)]) (st' := []) (h' := mx_wi h5 382 131 i2) (P := ((mxT 381).1 = 11 ∧ mxG h5) ∧ (((mxT 382).1 = 50 ∧ mxG h5) ∧ vp_in 131 (mxT 382).2) ∧ True) 5 rfl rfl ⟨⟨(congrArg Prod.fst sT_381), G7⟩, (cA sT_382 G7 (vpl rfl)), trivial⟩ ?_
    obtain ⟨h8, e9⟩ : ∃ z9, z9 = mx_wi h5 382 131 i2 := ⟨_, rfl⟩
    rw [← e9]
    have H := H h8 e9
    have G10 : mxG h8 := e9 ▸ mxG_wi G7
    refine wp_steps (i' := 44) (ls' := [some (.ref 381), some (.int i1), some (.int i2), some (.int i3), some (.int i4)]) (st' := []) (h' := mx_wi h8 382 132 i3) (P := ((mxT 381).1 = 11 ∧ mxG h8) ∧ (((mxT 382).1 = 50 ∧ mxG h8) ∧ vp_in 132 (mxT 382).2) ∧ True) 5 rfl rfl ⟨⟨(congrArg Prod.fst sT_381), G10⟩, (cA sT_382 G10 (vpl rfl)), trivial⟩ ?_
    obtain ⟨h11, e12⟩ : ∃ z9, z9 = mx_wi h8 382 132 i3 := ⟨_, rfl⟩
    rw [← e12]
    have H := H h11 e12
    have G13 : mxG h11 := e12 ▸ mxG_wi G10
    refine wp_steps (i' := 54) (ls' := [some (.ref 381), some (.int i1), some (.int i2), some (.int i3), some (.int i4)]) (st' := [.int ((mx_i h11 382 7) + 1), .int 60, .int 7, .ref 382]) (h' := h11) (P := ((mxT 381).1 = 11 ∧ mxG h11) ∧ ((mxT 381).1 = 11 ∧ mxG h11) ∧ (((mxT 382).1 = 50 ∧ mxG h11) ∧ vp_in 7 (mxT 382).2) ∧ True) 10 rfl rfl ⟨⟨(congrArg Prod.fst sT_381), G13⟩, ⟨(congrArg Prod.fst sT_381), G13⟩, (cA sT_382 G13 (vpl rfl)), trivial⟩ ?_
    refine wp_call (b := false) (y' := 192) (as := [.int 60, .int ((mx_i h11 382 7) + 1)]) (rest := [.int 7, .ref 382]) (P := True) rfl (by with_unfolding_all rfl) trivial (Nat.le_of_ble_eq_true rfl) (sp_192 G13 ?_)
    show mx_wp (d + 1) 251 55 [some (.ref 381), some (.int i1), some (.int i2), some (.int i3), some (.int i4)] [.int (V_192 h11 (60 : Int32) ((mx_i h11 382 7) + 1)), .int 7, .ref 382] h11 Q
    refine wp_steps (i' := 56) (ls' := [some (.ref 381), some (.int i1), some (.int i2), some (.int i3), some (.int i4)]) (st' := []) (h' := mx_wi h11 382 7 (V_192 h11 (60 : Int32) ((mx_i h11 382 7) + 1))) (P := (((mxT 382).1 = 50 ∧ mxG h11) ∧ vp_in 7 (mxT 382).2) ∧ True) 1 rfl rfl ⟨(cA sT_382 G13 (vpl rfl)), trivial⟩ ?_
    obtain ⟨h14, e15⟩ : ∃ z9, z9 = mx_wi h11 382 7 (V_192 h11 (60 : Int32) ((mx_i h11 382 7) + 1)) := ⟨_, rfl⟩
    rw [← e15]
    have H := H h14 e15
    have G16 : mxG h14 := e15 ▸ mxG_wi G13
    exact wp_end (o := .inl none) (h' := h14) (P := True) rfl rfl trivial H
  · skip
    have H := H.2 c1
    obtain ⟨o17, o18, H⟩ := H
    refine wp_steps (i' := 19) (ls' := [some (.ref 381), some (.int i1), some (.int i2), some (.int i3), some (.int i4)]) (st' := []) (h' := mx_wi h 382 (129 + i4).toNatClampNeg (mx_i h 382 ((129 + i4) - 4).toNatClampNeg)) (P := ((mxT 381).1 = 11 ∧ mxG h) ∧ ((mxT 381).1 = 11 ∧ mxG h) ∧ (((mxT 382).1 = 50 ∧ mxG h) ∧ vp_in ((129 + i4) - 4) (mxT 382).2) ∧ (((mxT 382).1 = 50 ∧ mxG h) ∧ vp_in (129 + i4) (mxT 382).2) ∧ True) 14 rfl rfl ⟨⟨(congrArg Prod.fst sT_381), G⟩, ⟨(congrArg Prod.fst sT_381), G⟩, (cA sT_382 G o17), (cA sT_382 G o18), trivial⟩ ?_
    obtain ⟨h19, e20⟩ : ∃ z9, z9 = mx_wi h 382 (129 + i4).toNatClampNeg (mx_i h 382 ((129 + i4) - 4).toNatClampNeg) := ⟨_, rfl⟩
    rw [← e20]
    have H := H h19 e20
    have G21 : mxG h19 := e20 ▸ mxG_wi G
    refine wp_steps (i' := 20) (ls' := [some (.ref 381), some (.int i1), some (.int i2), some (.int i3), some (.int (i4 + (-1)))]) (st' := []) (h' := h19) (P := True) 1 rfl rfl trivial ?_
    refine wp_J (j := 2) (st' := []) rfl rfl ?_
    exact H 
/-! 252: StoneBacksModel.moves(III)V -/
set_option maxRecDepth 8000 in
theorem tr_252_0 {d : Nat} {h : mxH} {Q : mxO → mxH → Prop} {i1 : Int32} {i2 : Int32} {i3 : Int32} (G : mxG h)  (H : (vp_in ((33 + (6 * i1)) + (0 : Int32)) 769 ∧ (∀ h2, h2 = W_197 h i1 (0 : Int32) ((V_196 h i1 (0 : Int32)) - i3) → (vp_in ((33 + (6 * i2)) + (0 : Int32)) 769 ∧ (∀ h7, h7 = W_197 h2 i2 (0 : Int32) (V_192 h2 (9999 : Int32) ((V_196 h2 i2 (0 : Int32)) + i3)) → Q (.inl none) h7))))) : mx_wp (d + 1) 252 0 (mx_fr 252 [.ref 381, .int i1, .int i2, .int i3]) [] h Q := by
  show mx_wp (d + 1) 252 0 [some (.ref 381), some (.int i1), some (.int i2), some (.int i3)] [] h Q
  refine wp_steps (i' := 6) (ls' := [some (.ref 381), some (.int i1), some (.int i2), some (.int i3)]) (st' := [.int 0, .int i1, .ref 381, .int 0, .int i1, .ref 381]) (h' := h) (P := True) 6 rfl rfl trivial ?_
  obtain ⟨o1, H⟩ := H
  refine wp_call (b := false) (y' := 196) (as := [.ref 381, .int i1, .int 0]) (rest := [.int 0, .int i1, .ref 381]) (P := ((mxT 381).1 = mxRc 196 ∧ mxG h)) rfl (by with_unfolding_all rfl) ⟨(congrArg Prod.fst sT_381), G⟩ (Nat.le_of_ble_eq_true rfl) (sp_196 G o1 ?_)
  show mx_wp (d + 1) 252 7 [some (.ref 381), some (.int i1), some (.int i2), some (.int i3)] [.int (V_196 h i1 (0 : Int32)), .int 0, .int i1, .ref 381] h Q
  refine wp_steps (i' := 9) (ls' := [some (.ref 381), some (.int i1), some (.int i2), some (.int i3)]) (st' := [.int ((V_196 h i1 (0 : Int32)) - i3), .int 0, .int i1, .ref 381]) (h' := h) (P := True) 2 rfl rfl trivial ?_
  refine wp_call (b := false) (y' := 197) (as := [.ref 381, .int i1, .int 0, .int ((V_196 h i1 (0 : Int32)) - i3)]) (rest := []) (P := ((mxT 381).1 = mxRc 197 ∧ mxG h)) rfl (by with_unfolding_all rfl) ⟨(congrArg Prod.fst sT_381), G⟩ (Nat.le_of_ble_eq_true rfl) (sp_197 G o1 ?_)
  show mx_wp (d + 1) 252 10 [some (.ref 381), some (.int i1), some (.int i2), some (.int i3)] [] (W_197 h i1 (0 : Int32) ((V_196 h i1 (0 : Int32)) - i3)) Q
  obtain ⟨h2, e3⟩ : ∃ z9, z9 = W_197 h i1 (0 : Int32) ((V_196 h i1 (0 : Int32)) - i3) := ⟨_, rfl⟩
  rw [← e3]
  have H := H h2 e3
  have K5 : mxK h h2 := e3 ▸ KW_197
  have G4 : mxG h2 := mxK_G K5 G
  refine wp_steps (i' := 17) (ls' := [some (.ref 381), some (.int i1), some (.int i2), some (.int i3)]) (st' := [.int 0, .int i2, .ref 381, .int 9999, .int 0, .int i2, .ref 381]) (h' := h2) (P := True) 7 rfl rfl trivial ?_
  obtain ⟨o6, H⟩ := H
  refine wp_call (b := false) (y' := 196) (as := [.ref 381, .int i2, .int 0]) (rest := [.int 9999, .int 0, .int i2, .ref 381]) (P := ((mxT 381).1 = mxRc 196 ∧ mxG h2)) rfl (by with_unfolding_all rfl) ⟨(congrArg Prod.fst sT_381), G4⟩ (Nat.le_of_ble_eq_true rfl) (sp_196 G4 o6 ?_)
  show mx_wp (d + 1) 252 18 [some (.ref 381), some (.int i1), some (.int i2), some (.int i3)] [.int (V_196 h2 i2 (0 : Int32)), .int 9999, .int 0, .int i2, .ref 381] h2 Q
  refine wp_steps (i' := 20) (ls' := [some (.ref 381), some (.int i1), some (.int i2), some (.int i3)]) (st' := [.int ((V_196 h2 i2 (0 : Int32)) + i3), .int 9999, .int 0, .int i2, .ref 381]) (h' := h2) (P := True) 2 rfl rfl trivial ?_
  refine wp_call (b := false) (y' := 192) (as := [.int 9999, .int ((V_196 h2 i2 (0 : Int32)) + i3)]) (rest := [.int 0, .int i2, .ref 381]) (P := True) rfl (by with_unfolding_all rfl) trivial (Nat.le_of_ble_eq_true rfl) (sp_192 G4 ?_)
  show mx_wp (d + 1) 252 21 [some (.ref 381), some (.int i1), some (.int i2), some (.int i3)] [.int (V_192 h2 (9999 : Int32) ((V_196 h2 i2 (0 : Int32)) + i3)), .int 0, .int i2, .ref 381] h2 Q
  refine wp_call (b := false) (y' := 197) (as := [.ref 381, .int i2, .int 0, .int (V_192 h2 (9999 : Int32) ((V_196 h2 i2 (0 : Int32)) + i3))]) (rest := []) (P := ((mxT 381).1 = mxRc 197 ∧ mxG h2)) rfl (by with_unfolding_all rfl) ⟨(congrArg Prod.fst sT_381), G4⟩ (Nat.le_of_ble_eq_true rfl) (sp_197 G4 o6 ?_)
  show mx_wp (d + 1) 252 22 [some (.ref 381), some (.int i1), some (.int i2), some (.int i3)] [] (W_197 h2 i2 (0 : Int32) (V_192 h2 (9999 : Int32) ((V_196 h2 i2 (0 : Int32)) + i3))) Q
  obtain ⟨h7, e8⟩ : ∃ z9, z9 = W_197 h2 i2 (0 : Int32) (V_192 h2 (9999 : Int32) ((V_196 h2 i2 (0 : Int32)) + i3)) := ⟨_, rfl⟩
  rw [← e8]
  have H := H h7 e8
  have K10 : mxK h2 h7 := e8 ▸ KW_197
  have G9 : mxG h7 := mxK_G K10 G4
  exact wp_end (o := .inl none) (h' := h7) (P := True) rfl rfl trivial H
def W_252 (h : mxH) (i1 : Int32) (i2 : Int32) (i3 : Int32) : mxH := (W_197 (W_197 h i1 (0 : Int32) ((V_196 h i1 (0 : Int32)) - i3)) i2 (0 : Int32) (V_192 (W_197 h i1 (0 : Int32) ((V_196 h i1 (0 : Int32)) - i3)) (9999 : Int32) ((V_196 (W_197 h i1 (0 : Int32) ((V_196 h i1 (0 : Int32)) - i3)) i2 (0 : Int32)) + i3)))
theorem KW_252 {h : mxH} {i1 : Int32} {i2 : Int32} {i3 : Int32} : mxK h (W_252 h i1 i2 i3) := by
  unfold W_252
  repeat' (first | with_reducible exact mxK_rfl | with_reducible exact mxK_wi | with_reducible exact mxK_wrow | with_reducible refine mxK_ite ?_ ?_ | with_reducible refine mxK_tr ?_ mxK_wi | with_reducible refine mxK_tr ?_ mxK_wrow | with_reducible exact KW_197 | with_reducible refine mxK_tr ?_ KW_197)
theorem sp_252 {d : Nat} {h : mxH} {Q : mxO → mxH → Prop} {i1 : Int32} {i2 : Int32} {i3 : Int32} (G : mxG h)  (x0 : vp_in ((33 + (6 * i1)) + (0 : Int32)) 769) (x1 : vp_in ((33 + (6 * i2)) + (0 : Int32)) 769) (k : Q (.inl none) (W_252 h i1 i2 i3)) : mx_wp (d + 1) 252 0 (mx_fr 252 [.ref 381, .int i1, .int i2, .int i3]) [] h Q := by
  unfold W_252 at k
  have hob : (vp_in ((33 + (6 * i1)) + (0 : Int32)) 769 ∧ (vp_in ((33 + (6 * i2)) + (0 : Int32)) 769 ∧ True)) := ⟨x0, ⟨x1, trivial⟩⟩
  refine tr_252_0 G  ?_
  obtain ⟨q0, hob⟩ := hob
  refine ⟨q0, ?_⟩
  intro h2 eh2
  subst eh2
  obtain ⟨q0, hob⟩ := hob
  refine ⟨q0, ?_⟩
  intro h7 eh7
  subst eh7
  exact k
/-! 269: StoneBacksModel.kth(II)I -/
def H_269_4 (d : Nat) (h : mxH) (i0 : Int32) (i1 : Int32) (i2 : Int32) (i3 : Int32) (Q : mxO → mxH → Prop) : Prop := mx_wp d 269 4 [some (.int i0), some (.int i1), some (.int i2), some (.int i3)] [] h Q
set_option maxRecDepth 8000 in
theorem tr_269_0 {d : Nat} {h : mxH} {Q : mxO → mxH → Prop} {i0 : Int32} {i1 : Int32} (G : mxG h)  (H : H_269_4 (d + 1) h i0 i1 0 0 Q) : mx_wp (d + 1) 269 0 (mx_fr 269 [.int i0, .int i1]) [] h Q := by
  show mx_wp (d + 1) 269 0 [some (.int i0), some (.int i1), none, none] [] h Q
  refine wp_steps (i' := 4) (ls' := [some (.int i0), some (.int i1), some (.int 0), some (.int 0)]) (st' := []) (h' := h) (P := True) 4 rfl rfl trivial ?_
  exact H 
set_option maxRecDepth 8000 in
theorem tr_269_4 {d : Nat} {h : mxH} {Q : mxO → mxH → Prop}  {i0 : Int32} {i1 : Int32} {i2 : Int32} {i3 : Int32} (G : mxG h)  (H : ((i3 < 31 → (((V_194 h i0 i3) = 0 → H_269_4 (d + 1) h i0 i1 i2 (i3 + 1) Q) ∧ (¬ (V_194 h i0 i3) = 0 → ((i2 = i1 → Q (.inl (some (.int i3))) h) ∧ (¬ i2 = i1 → H_269_4 (d + 1) h i0 i1 (i2 + 1) (i3 + 1) Q))))) ∧ (¬ i3 < 31 → Q (.inl (some (.int (-1)))) h))) : H_269_4 (d + 1) h i0 i1 i2 i3 Q := by
  show mx_wp (d + 1) 269 4 [some (.int i0), some (.int i1), some (.int i2), some (.int i3)] [] h Q
  refine wp_steps (i' := 6) (ls' := [some (.int i0), some (.int i1), some (.int i2), some (.int i3)]) (st' := [.int 31, .int i3]) (h' := h) (P := True) 2 rfl rfl trivial ?_
  refine wp_br (P := True) (c := 31 ≤ i3) (t := 20) (st' := []) rfl rfl trivial (fun c1 => ?_) (fun c1 => ?_)
  · have c1 := Int32.not_lt.mpr c1
    have H := H.2 c1
    refine wp_steps (i' := 21) (ls' := [some (.int i0), some (.int i1), some (.int i2), some (.int i3)]) (st' := [.int (-1)]) (h' := h) (P := True) 1 rfl rfl trivial ?_
    exact wp_end (o := .inl (some (.int (-1)))) (h' := h) (P := True) rfl rfl trivial H
  · have c1 := Int32.not_le.mp c1
    have H := H.1 c1
    refine wp_steps (i' := 9) (ls' := [some (.int i0), some (.int i1), some (.int i2), some (.int i3)]) (st' := [.int i3, .int i0]) (h' := h) (P := True) 2 rfl rfl trivial ?_
    refine wp_call (b := false) (y' := 194) (as := [.int i0, .int i3]) (rest := []) (P := True) rfl (by with_unfolding_all rfl) trivial (Nat.le_of_ble_eq_true rfl) (sp_194 G ?_)
    show mx_wp (d + 1) 269 10 [some (.int i0), some (.int i1), some (.int i2), some (.int i3)] [.int (V_194 h i0 i3)] h Q
    refine wp_br (P := True) (c := ¬ (V_194 h i0 i3) = 0) (t := 12) (st' := []) rfl rfl trivial (fun c2 => ?_) (fun c2 => ?_)
    · skip
      have H := H.2 c2
      refine wp_steps (i' := 14) (ls' := [some (.int i0), some (.int i1), some (.int i2), some (.int i3)]) (st' := [.int i1, .int i2]) (h' := h) (P := True) 2 rfl rfl trivial ?_
      refine wp_br (P := True) (c := ¬ i2 = i1) (t := 17) (st' := []) rfl rfl trivial (fun c3 => ?_) (fun c3 => ?_)
      · skip
        have H := H.2 c3
        refine wp_steps (i' := 19) (ls' := [some (.int i0), some (.int i1), some (.int (i2 + 1)), some (.int (i3 + 1))]) (st' := []) (h' := h) (P := True) 2 rfl rfl trivial ?_
        refine wp_J (j := 4) (st' := []) rfl rfl ?_
        exact H 
      · have c3 := Decidable.of_not_not c3
        have H := H.1 c3
        refine wp_steps (i' := 16) (ls' := [some (.int i0), some (.int i1), some (.int i2), some (.int i3)]) (st' := [.int i3]) (h' := h) (P := True) 1 rfl rfl trivial ?_
        exact wp_end (o := .inl (some (.int i3))) (h' := h) (P := True) rfl rfl trivial H
    · have c2 := Decidable.of_not_not c2
      have H := H.1 c2
      refine wp_J (j := 18) (st' := []) rfl rfl ?_
      refine wp_steps (i' := 19) (ls' := [some (.int i0), some (.int i1), some (.int i2), some (.int (i3 + 1))]) (st' := []) (h' := h) (P := True) 1 rfl rfl trivial ?_
      refine wp_J (j := 4) (st' := []) rfl rfl ?_
      exact H 
/-! 275: StoneBacksModel.owes(II)Z -/
def H_275_29 (d : Nat) (h : mxH) (i2 : Int32) (i3 : Int32) (i4 : Int32) (Q : mxO → mxH → Prop) : Prop := ∀ (w1 : Option Value) (w5 : Option Value), mx_wp d 275 29 [some (.ref 381), w1, some (.int i2), some (.int i3), some (.int i4), w5] [] h Q
def H_275_34 (d : Nat) (h : mxH) (i2 : Int32) (i3 : Int32) (i4 : Int32) (i5 : Int32) (Q : mxO → mxH → Prop) : Prop := ∀ (w1 : Option Value), mx_wp d 275 34 [some (.ref 381), w1, some (.int i2), some (.int i3), some (.int i4), some (.int i5)] [] h Q
set_option maxRecDepth 8000 in
theorem tr_275_0 {d : Nat} {h : mxH} {Q : mxO → mxH → Prop} {i1 : Int32} {i2 : Int32} (G : mxG h)  (H : (((V_191 h i1 (0 : Int32) ((mx_i h 382 3) - 1)) = 0 ∨ (V_191 h i1 (0 : Int32) ((mx_i h 382 3) - 1)) = 1) ∧ ((((V_200 h i1) = 0 → True) ∧ (¬ (V_200 h i1) = 0 → (((V_191 h i2 (0 : Int32) ((mx_i h 382 3) - 1)) = 0 ∨ (V_191 h i2 (0 : Int32) ((mx_i h 382 3) - 1)) = 1) ∧ True))) ∧ (∀ (v2 : Int32), v2 = (if (V_200 h i1) = 0 then 1 else (if (V_200 h i2) = 0 then 1 else (if i1 = i2 then 2 else 0))) → (∀ h3, h3 = mx_wi h 381 0 v2 → ((0 < (mx_i h3 381 0) → Q (.inl (some (.int 0))) h3) ∧ (¬ 0 < (mx_i h3 381 0) → H_275_29 (d + 2) h3 i2 (1 <<< (i1 &&& 31)) 0 Q))))))) : mx_wp (d + 2) 275 0 (mx_fr 275 [.ref 381, .int i1, .int i2]) [] h Q := by
  show mx_wp (d + 2) 275 0 [some (.ref 381), some (.int i1), some (.int i2), none, none, none] [] h Q
  refine wp_steps (i' := 3) (ls' := [some (.ref 381), some (.int i1), some (.int i2), none, none, none]) (st' := [.int i1, .ref 381, .ref 381]) (h' := h) (P := True) 3 rfl rfl trivial ?_
  obtain ⟨o1, H⟩ := H
  refine wp_call (b := false) (y' := 200) (as := [.ref 381, .int i1]) (rest := [.ref 381]) (P := ((mxT 381).1 = mxRc 200 ∧ mxG h)) rfl (by with_unfolding_all rfl) ⟨(congrArg Prod.fst sT_381), G⟩ (Nat.le_of_ble_eq_true rfl) (sp_200 G o1 ?_)
  show mx_wp (d + 2) 275 4 [some (.ref 381), some (.int i1), some (.int i2), none, none, none] [.int (V_200 h i1), .ref 381] h Q
  have J : ∀ (v2 : Int32) (ev2 : v2 = (if (V_200 h i1) = 0 then 1 else (if (V_200 h i2) = 0 then 1 else (if i1 = i2 then 2 else 0)))), mx_wp (d + 2) 275 17 [some (.ref 381), some (.int i1), some (.int i2), none, none, none] [.int v2, .ref 381] h Q := by
    intro v2 ev2
    have H := H.2 v2 ev2
    refine wp_steps (i' := 18) (ls' := [some (.ref 381), some (.int i1), some (.int i2), none, none, none]) (st' := []) (h' := mx_wi h 381 0 v2) (P := ((mxT 381).1 = 11 ∧ mxG h) ∧ True) 1 rfl rfl ⟨⟨(congrArg Prod.fst sT_381), G⟩, trivial⟩ ?_
    obtain ⟨h3, e4⟩ : ∃ z9, z9 = mx_wi h 381 0 v2 := ⟨_, rfl⟩
    rw [← e4]
    have H := H h3 e4
    have G5 : mxG h3 := e4 ▸ mxG_wi G
    refine wp_steps (i' := 20) (ls' := [some (.ref 381), some (.int i1), some (.int i2), none, none, none]) (st' := [.int (mx_i h3 381 0)]) (h' := h3) (P := ((mxT 381).1 = 11 ∧ mxG h3) ∧ True) 2 rfl rfl ⟨⟨(congrArg Prod.fst sT_381), G5⟩, trivial⟩ ?_
    refine wp_br (P := True) (c := (mx_i h3 381 0) ≤ 0) (t := 23) (st' := []) rfl rfl trivial (fun c6 => ?_) (fun c6 => ?_)
    · have c6 := Int32.not_lt.mpr c6
      have H := H.2 c6
      refine wp_steps (i' := 29) (ls' := [some (.ref 381), some (.int i1), some (.int i2), some (.int (1 <<< (i1 &&& 31))), some (.int 0), none]) (st' := []) (h' := h3) (P := True) 6 rfl rfl trivial ?_
      exact H _ _
    · have c6 := Int32.not_le.mp c6
      have H := H.1 c6
      refine wp_steps (i' := 22) (ls' := [some (.ref 381), some (.int i1), some (.int i2), none, none, none]) (st' := [.int 0]) (h' := h3) (P := True) 1 rfl rfl trivial ?_
      exact wp_end (o := .inl (some (.int 0))) (h' := h3) (P := ((0 : Int32) = 0 ∨ (0 : Int32) = 1)) rfl rfl (Or.inl rfl) H
  have H := H.1
  refine wp_br (P := True) (c := (V_200 h i1) = 0) (t := 9) (st' := [.ref 381]) rfl rfl trivial (fun c7 => ?_) (fun c7 => ?_)
  · skip
    refine wp_steps (i' := 10) (ls' := [some (.ref 381), some (.int i1), some (.int i2), none, none, none]) (st' := [.int 1, .ref 381]) (h' := h) (P := True) 1 rfl rfl trivial ?_
    refine wp_J (j := 17) (st' := [.int 1, .ref 381]) rfl rfl ?_
    exact J _ (by rw [if_pos c7])
  · skip
    have H := H.2 c7
    refine wp_steps (i' := 7) (ls' := [some (.ref 381), some (.int i1), some (.int i2), none, none, none]) (st' := [.int i2, .ref 381, .ref 381]) (h' := h) (P := True) 2 rfl rfl trivial ?_
    obtain ⟨o8, H⟩ := H
    refine wp_call (b := false) (y' := 200) (as := [.ref 381, .int i2]) (rest := [.ref 381]) (P := ((mxT 381).1 = mxRc 200 ∧ mxG h)) rfl (by with_unfolding_all rfl) ⟨(congrArg Prod.fst sT_381), G⟩ (Nat.le_of_ble_eq_true rfl) (sp_200 G o8 ?_)
    show mx_wp (d + 2) 275 8 [some (.ref 381), some (.int i1), some (.int i2), none, none, none] [.int (V_200 h i2), .ref 381] h Q
    refine wp_br (P := True) (c := ¬ (V_200 h i2) = 0) (t := 11) (st' := [.ref 381]) rfl rfl trivial (fun c9 => ?_) (fun c9 => ?_)
    · skip
      refine wp_steps (i' := 13) (ls' := [some (.ref 381), some (.int i1), some (.int i2), none, none, none]) (st' := [.int i2, .int i1, .ref 381]) (h' := h) (P := True) 2 rfl rfl trivial ?_
      refine wp_br (P := True) (c := ¬ i1 = i2) (t := 16) (st' := [.ref 381]) rfl rfl trivial (fun c10 => ?_) (fun c10 => ?_)
      · skip
        refine wp_steps (i' := 17) (ls' := [some (.ref 381), some (.int i1), some (.int i2), none, none, none]) (st' := [.int 0, .ref 381]) (h' := h) (P := True) 1 rfl rfl trivial ?_
        exact J _ (by rw [if_neg c7, if_neg c9, if_neg c10])
      · have c10 := Decidable.of_not_not c10
        refine wp_steps (i' := 15) (ls' := [some (.ref 381), some (.int i1), some (.int i2), none, none, none]) (st' := [.int 2, .ref 381]) (h' := h) (P := True) 1 rfl rfl trivial ?_
        refine wp_J (j := 17) (st' := [.int 2, .ref 381]) rfl rfl ?_
        exact J _ (by rw [if_neg c7, if_neg c9, if_pos c10])
    · have c9 := Decidable.of_not_not c9
      refine wp_steps (i' := 10) (ls' := [some (.ref 381), some (.int i1), some (.int i2), none, none, none]) (st' := [.int 1, .ref 381]) (h' := h) (P := True) 1 rfl rfl trivial ?_
      refine wp_J (j := 17) (st' := [.int 1, .ref 381]) rfl rfl ?_
      exact J _ (by rw [if_neg c7, if_pos c9])
set_option maxRecDepth 8000 in
theorem tr_275_29 {d : Nat} {h : mxH} {Q : mxO → mxH → Prop}  {i2 : Int32} {i3 : Int32} {i4 : Int32} (G : mxG h)  (H : ((i4 < 6 → H_275_34 (d + 2) h i2 i3 i4 0 Q) ∧ (¬ i4 < 6 → (((V_194 h i3 i2) = 0 ∨ (V_194 h i3 i2) = 1) ∧ Q (.inl (some (.int (V_194 h i3 i2)))) h)))) : H_275_29 (d + 2) h i2 i3 i4 Q := by
  intro w1 w5
  show mx_wp (d + 2) 275 29 [some (.ref 381), w1, some (.int i2), some (.int i3), some (.int i4), w5] [] h Q
  refine wp_steps (i' := 31) (ls' := [some (.ref 381), w1, some (.int i2), some (.int i3), some (.int i4), w5]) (st' := [.int 6, .int i4]) (h' := h) (P := True) 2 rfl rfl trivial ?_
  refine wp_br (P := True) (c := 6 ≤ i4) (t := 66) (st' := []) rfl rfl trivial (fun c1 => ?_) (fun c1 => ?_)
  · have c1 := Int32.not_lt.mpr c1
    have H := H.2 c1
    refine wp_steps (i' := 68) (ls' := [some (.ref 381), w1, some (.int i2), some (.int i3), some (.int i4), w5]) (st' := [.int i2, .int i3]) (h' := h) (P := True) 2 rfl rfl trivial ?_
    refine wp_call (b := false) (y' := 194) (as := [.int i3, .int i2]) (rest := []) (P := True) rfl (by with_unfolding_all rfl) trivial (Nat.le_of_ble_eq_true rfl) (sp_194 G ?_)
    show mx_wp (d + 2) 275 69 [some (.ref 381), w1, some (.int i2), some (.int i3), some (.int i4), w5] [.int (V_194 h i3 i2)] h Q
    obtain ⟨o2, H⟩ := H
    exact wp_end (o := .inl (some (.int (V_194 h i3 i2)))) (h' := h) (P := ((V_194 h i3 i2) = 0 ∨ (V_194 h i3 i2) = 1)) rfl rfl o2 H
  · have c1 := Int32.not_le.mp c1
    have H := H.1 c1
    refine wp_steps (i' := 34) (ls' := [some (.ref 381), w1, some (.int i2), some (.int i3), some (.int i4), some (.int 0)]) (st' := []) (h' := h) (P := True) 2 rfl rfl trivial ?_
    exact H _
set_option maxRecDepth 8000 in
theorem tr_275_34 {d : Nat} {h : mxH} {Q : mxO → mxH → Prop}  {i2 : Int32} {i3 : Int32} {i4 : Int32} {i5 : Int32} (G : mxG h)  (H : ((i5 < (mx_i h 382 4) → (vp_in ((69 + (6 * i5)) + (3 : Int32)) 769 ∧ ((((V_198 h i5 (3 : Int32)) < 2 → (vp_in ((69 + (6 * i5)) + (0 : Int32)) 769 ∧ (((V_194 h i3 (V_198 h i5 (0 : Int32))) = 0 → True) ∧ (¬ (V_194 h i3 (V_198 h i5 (0 : Int32))) = 0 → (vp_in ((69 + (6 * i5)) + (1 : Int32)) 769 ∧ True))))) ∧ (¬ (V_198 h i5 (3 : Int32)) < 2 → True)) ∧ (∀ (v3 : Int32), v3 = (if (V_198 h i5 (3 : Int32)) < 2 then (if (V_194 h i3 (V_198 h i5 (0 : Int32))) = 0 then i3 else (i3 ||| (1 <<< ((V_198 h i5 (1 : Int32)) &&& 31)))) else i3) → H_275_34 (d + 2) h i2 v3 i4 (i5 + 1) Q)))) ∧ (¬ i5 < (mx_i h 382 4) → H_275_29 (d + 2) h i2 i3 (i4 + 1) Q))) : H_275_34 (d + 2) h i2 i3 i4 i5 Q := by
  intro w1
  show mx_wp (d + 2) 275 34 [some (.ref 381), w1, some (.int i2), some (.int i3), some (.int i4), some (.int i5)] [] h Q
  refine wp_steps (i' := 39) (ls' := [some (.ref 381), w1, some (.int i2), some (.int i3), some (.int i4), some (.int i5)]) (st' := [.int (mx_i h 382 4), .int i5]) (h' := h) (P := ((mxT 381).1 = 11 ∧ mxG h) ∧ (((mxT 382).1 = 50 ∧ mxG h) ∧ vp_in 4 (mxT 382).2) ∧ True) 5 rfl rfl ⟨⟨(congrArg Prod.fst sT_381), G⟩, (cA sT_382 G (vpl rfl)), trivial⟩ ?_
  refine wp_br (P := True) (c := (mx_i h 382 4) ≤ i5) (t := 64) (st' := []) rfl rfl trivial (fun c1 => ?_) (fun c1 => ?_)
  · have c1 := Int32.not_lt.mpr c1
    have H := H.2 c1
    refine wp_steps (i' := 65) (ls' := [some (.ref 381), w1, some (.int i2), some (.int i3), some (.int (i4 + 1)), some (.int i5)]) (st' := []) (h' := h) (P := True) 1 rfl rfl trivial ?_
    refine wp_J (j := 29) (st' := []) rfl rfl ?_
    exact H _ _
  · have c1 := Int32.not_le.mp c1
    have H := H.1 c1
    refine wp_steps (i' := 43) (ls' := [some (.ref 381), w1, some (.int i2), some (.int i3), some (.int i4), some (.int i5)]) (st' := [.int 3, .int i5, .ref 381]) (h' := h) (P := True) 3 rfl rfl trivial ?_
    obtain ⟨o2, H⟩ := H
    refine wp_call (b := false) (y' := 198) (as := [.ref 381, .int i5, .int 3]) (rest := []) (P := ((mxT 381).1 = mxRc 198 ∧ mxG h)) rfl (by with_unfolding_all rfl) ⟨(congrArg Prod.fst sT_381), G⟩ (Nat.le_of_ble_eq_true rfl) (sp_198 G o2 ?_)
    show mx_wp (d + 2) 275 44 [some (.ref 381), w1, some (.int i2), some (.int i3), some (.int i4), some (.int i5)] [.int (V_198 h i5 (3 : Int32))] h Q
    refine wp_steps (i' := 45) (ls' := [some (.ref 381), w1, some (.int i2), some (.int i3), some (.int i4), some (.int i5)]) (st' := [.int 2, .int (V_198 h i5 (3 : Int32))]) (h' := h) (P := True) 1 rfl rfl trivial ?_
    have J : ∀ (v3 : Int32) (ev3 : v3 = (if (V_198 h i5 (3 : Int32)) < 2 then (if (V_194 h i3 (V_198 h i5 (0 : Int32))) = 0 then i3 else (i3 ||| (1 <<< ((V_198 h i5 (1 : Int32)) &&& 31)))) else i3)), mx_wp (d + 2) 275 62 [some (.ref 381), w1, some (.int i2), some (.int v3), some (.int i4), some (.int i5)] [] h Q := by
      intro v3 ev3
      have H := H.2 v3 ev3
      refine wp_steps (i' := 63) (ls' := [some (.ref 381), w1, some (.int i2), some (.int v3), some (.int i4), some (.int (i5 + 1))]) (st' := []) (h' := h) (P := True) 1 rfl rfl trivial ?_
      refine wp_J (j := 34) (st' := []) rfl rfl ?_
      exact H _
    have H := H.1
    refine wp_br (P := True) (c := 2 ≤ (V_198 h i5 (3 : Int32))) (t := 62) (st' := []) rfl rfl trivial (fun c4 => ?_) (fun c4 => ?_)
    · have c4 := Int32.not_lt.mpr c4
      exact J _ (by rw [if_neg c4])
    · have c4 := Int32.not_le.mp c4
      have H := H.1 c4
      refine wp_steps (i' := 50) (ls' := [some (.ref 381), w1, some (.int i2), some (.int i3), some (.int i4), some (.int i5)]) (st' := [.int 0, .int i5, .ref 381, .int i3]) (h' := h) (P := True) 4 rfl rfl trivial ?_
      obtain ⟨o5, H⟩ := H
      refine wp_call (b := false) (y' := 198) (as := [.ref 381, .int i5, .int 0]) (rest := [.int i3]) (P := ((mxT 381).1 = mxRc 198 ∧ mxG h)) rfl (by with_unfolding_all rfl) ⟨(congrArg Prod.fst sT_381), G⟩ (Nat.le_of_ble_eq_true rfl) (sp_198 G o5 ?_)
      show mx_wp (d + 2) 275 51 [some (.ref 381), w1, some (.int i2), some (.int i3), some (.int i4), some (.int i5)] [.int (V_198 h i5 (0 : Int32)), .int i3] h Q
      refine wp_call (b := false) (y' := 194) (as := [.int i3, .int (V_198 h i5 (0 : Int32))]) (rest := []) (P := True) rfl (by with_unfolding_all rfl) trivial (Nat.le_of_ble_eq_true rfl) (sp_194 G ?_)
      show mx_wp (d + 2) 275 52 [some (.ref 381), w1, some (.int i2), some (.int i3), some (.int i4), some (.int i5)] [.int (V_194 h i3 (V_198 h i5 (0 : Int32)))] h Q
      refine wp_br (P := True) (c := (V_194 h i3 (V_198 h i5 (0 : Int32))) = 0) (t := 62) (st' := []) rfl rfl trivial (fun c6 => ?_) (fun c6 => ?_)
      · skip
        exact J _ (by rw [if_pos c4, if_pos c6])
      · skip
        have H := H.2 c6
        refine wp_steps (i' := 58) (ls' := [some (.ref 381), w1, some (.int i2), some (.int i3), some (.int i4), some (.int i5)]) (st' := [.int 1, .int i5, .ref 381, .int 1, .int i3]) (h' := h) (P := True) 5 rfl rfl trivial ?_
        obtain ⟨o7, H⟩ := H
        refine wp_call (b := false) (y' := 198) (as := [.ref 381, .int i5, .int 1]) (rest := [.int 1, .int i3]) (P := ((mxT 381).1 = mxRc 198 ∧ mxG h)) rfl (by with_unfolding_all rfl) ⟨(congrArg Prod.fst sT_381), G⟩ (Nat.le_of_ble_eq_true rfl) (sp_198 G o7 ?_)
        show mx_wp (d + 2) 275 59 [some (.ref 381), w1, some (.int i2), some (.int i3), some (.int i4), some (.int i5)] [.int (V_198 h i5 (1 : Int32)), .int 1, .int i3] h Q
        refine wp_steps (i' := 62) (ls' := [some (.ref 381), w1, some (.int i2), some (.int (i3 ||| (1 <<< ((V_198 h i5 (1 : Int32)) &&& 31)))), some (.int i4), some (.int i5)]) (st' := []) (h' := h) (P := True) 3 rfl rfl trivial ?_
        exact J _ (by rw [if_pos c4, if_neg c6])
def F_275_34 (h : mxH) (i2 : Int32) (i4 : Int32) (z : Nat) (s : Int32) : Int32 := ((if (V_198 h (nI z) (3 : Int32)) < 2 then (if (V_194 h s (V_198 h (nI z) (0 : Int32))) = 0 then s else (s ||| (1 <<< ((V_198 h (nI z) (1 : Int32)) &&& 31)))) else s) : Int32)
theorem lp_275_34 {d : Nat} {h : mxH} {Q : mxO → mxH → Prop} {i2 : Int32} {i4 : Int32} {s0 : Int32} {n : Nat} (z0 : Nat) (G : mxG h)  (hB : (mx_i h 382 4) = nI n) (hn : n < 2147483648) (hz : z0 ≤ n) (ob : ∀ z, z0 ≤ z → z < n → (vp_in ((69 + (6 * (nI z))) + (3 : Int32)) 769 ∧ ((((V_198 h (nI z) (3 : Int32)) < 2 → (vp_in ((69 + (6 * (nI z))) + (0 : Int32)) 769 ∧ (((V_194 h (fz (F_275_34 h i2 i4) z0 z s0) (V_198 h (nI z) (0 : Int32))) = 0 → True) ∧ (¬ (V_194 h (fz (F_275_34 h i2 i4) z0 z s0) (V_198 h (nI z) (0 : Int32))) = 0 → (vp_in ((69 + (6 * (nI z))) + (1 : Int32)) 769 ∧ True))))) ∧ (¬ (V_198 h (nI z) (3 : Int32)) < 2 → True)) ∧ True))) (k : H_275_29 (d + 2) h i2 (fz (F_275_34 h i2 i4) z0 n s0) (i4 + 1) Q) : H_275_34 (d + 2) h i2 s0 i4 (nI z0) Q := by
  have L : ∀ (j z : Nat), z0 ≤ z → z + j = n → H_275_34 (d + 2) h i2 (fz (F_275_34 h i2 i4) z0 z s0) i4 (nI z) Q := by
    intro j
    induction j with
    | zero =>
      intro z hz0 hzn
      have hzn : z = n := by omega
      subst hzn
      refine tr_275_34 G  ⟨fun c9 => absurd (hB ▸ c9) Int32.lt_irrefl, fun c9 => k⟩
    | succ j ih =>
      intro z hz0 hzn
      have hih := ih (z + 1) (by omega) (by omega)
      rw [nI_succ, fz_s hz0] at hih
      have hob := ob z hz0 (by omega)
      refine tr_275_34 G  ⟨fun c9 => ?_, fun c9 => absurd (hB.symm ▸ nI_lt (by omega) hn) c9⟩
      obtain ⟨q0, hob⟩ := hob
      refine ⟨q0, ?_⟩
      obtain ⟨q0, hob⟩ := hob
      refine ⟨q0, ?_⟩
      intro v3 ev3
      subst ev3
      exact hih
  have L0 := L (n - z0) z0 (Nat.le_refl _) (by omega)
  simp only [fz_0] at L0
  exact L0
/-! 276: StoneBacksModel.lenderHas(III)I -/
set_option maxRecDepth 8000 in
theorem tr_276_0 {d : Nat} {h : mxH} {Q : mxO → mxH → Prop} {i0 : Int32} {i1 : Int32} {i2 : Int32} (G : mxG h)  (H : (∀ (v1 : Int32), v1 = (if i1 = 0 then i0 else (i0 / 2)) → (∀ (v2 : Int32), v2 = (if i2 = 0 then v1 else (-v1)) → Q (.inl (some (.int v2))) h))) : mx_wp d 276 0 (mx_fr 276 [.int i0, .int i1, .int i2]) [] h Q := by
  show mx_wp d 276 0 [some (.int i0), some (.int i1), some (.int i2), none] [] h Q
  refine wp_steps (i' := 1) (ls' := [some (.int i0), some (.int i1), some (.int i2), none]) (st' := [.int i1]) (h' := h) (P := True) 1 rfl rfl trivial ?_
  have J : ∀ (v1 : Int32) (ev1 : v1 = (if i1 = 0 then i0 else (i0 / 2))), mx_wp d 276 7 [some (.int i0), some (.int i1), some (.int i2), none] [.int v1] h Q := by
    intro v1 ev1
    have H := H v1 ev1
    refine wp_steps (i' := 9) (ls' := [some (.int i0), some (.int i1), some (.int i2), some (.int v1)]) (st' := [.int i2]) (h' := h) (P := True) 2 rfl rfl trivial ?_
    have J : ∀ (v2 : Int32) (ev2 : v2 = (if i2 = 0 then v1 else (-v1))), mx_wp d 276 14 [some (.int i0), some (.int i1), some (.int i2), some (.int v1)] [.int v2] h Q := by
      intro v2 ev2
      have H := H v2 ev2
      exact wp_end (o := .inl (some (.int v2))) (h' := h) (P := True) rfl rfl trivial H
    refine wp_br (P := True) (c := ¬ i2 = 0) (t := 12) (st' := []) rfl rfl trivial (fun c3 => ?_) (fun c3 => ?_)
    · skip
      refine wp_steps (i' := 14) (ls' := [some (.int i0), some (.int i1), some (.int i2), some (.int v1)]) (st' := [.int (-v1)]) (h' := h) (P := True) 2 rfl rfl trivial ?_
      exact J _ (by rw [if_neg c3])
    · have c3 := Decidable.of_not_not c3
      refine wp_steps (i' := 11) (ls' := [some (.int i0), some (.int i1), some (.int i2), some (.int v1)]) (st' := [.int v1]) (h' := h) (P := True) 1 rfl rfl trivial ?_
      refine wp_J (j := 14) (st' := [.int v1]) rfl rfl ?_
      exact J _ (by rw [if_pos c3])
  refine wp_br (P := True) (c := ¬ i1 = 0) (t := 4) (st' := []) rfl rfl trivial (fun c4 => ?_) (fun c4 => ?_)
  · skip
    refine wp_steps (i' := 7) (ls' := [some (.int i0), some (.int i1), some (.int i2), none]) (st' := [.int (i0 / 2)]) (h' := h) (P := (¬ (2 : Int32) = 0) ∧ True) 3 rfl rfl ⟨(by decide), trivial⟩ ?_
    exact J _ (by rw [if_neg c4])
  · have c4 := Decidable.of_not_not c4
    refine wp_steps (i' := 3) (ls' := [some (.int i0), some (.int i1), some (.int i2), none]) (st' := [.int i0]) (h' := h) (P := True) 1 rfl rfl trivial ?_
    refine wp_J (j := 7) (st' := [.int i0]) rfl rfl ?_
    exact J _ (by rw [if_pos c4])
def V_276 (h : mxH) (i0 : Int32) (i1 : Int32) (i2 : Int32) : Int32 := ((if i2 = 0 then ((if i1 = 0 then i0 else (i0 / 2)) : Int32) else (-((if i1 = 0 then i0 else (i0 / 2)) : Int32))) : Int32)
theorem sp_276 {d : Nat} {h : mxH} {Q : mxO → mxH → Prop} {i0 : Int32} {i1 : Int32} {i2 : Int32} (G : mxG h)  (k : Q (.inl (some (.int (V_276 h i0 i1 i2)))) h) : mx_wp d 276 0 (mx_fr 276 [.int i0, .int i1, .int i2]) [] h Q := by
  unfold V_276 at k
  refine tr_276_0 G  ?_
  intro v1 ev1
  subst ev1
  intro v2 ev2
  subst ev2
  exact k
/-! 289: StoneBacksModel.unpaid()I -/
def H_289_4 (d : Nat) (h : mxH) (i1 : Int32) (i2 : Int32) (Q : mxO → mxH → Prop) : Prop := mx_wp d 289 4 [some (.ref 381), some (.int i1), some (.int i2)] [] h Q
set_option maxRecDepth 8000 in
theorem tr_289_0 {d : Nat} {h : mxH} {Q : mxO → mxH → Prop}  (G : mxG h)  (H : H_289_4 (d + 1) h 0 0 Q) : mx_wp (d + 1) 289 0 (mx_fr 289 [.ref 381]) [] h Q := by
  show mx_wp (d + 1) 289 0 [some (.ref 381), none, none] [] h Q
  refine wp_steps (i' := 4) (ls' := [some (.ref 381), some (.int 0), some (.int 0)]) (st' := []) (h' := h) (P := True) 4 rfl rfl trivial ?_
  exact H 
set_option maxRecDepth 8000 in
theorem tr_289_4 {d : Nat} {h : mxH} {Q : mxO → mxH → Prop}  {i1 : Int32} {i2 : Int32} (G : mxG h)  (H : ((i2 < (mx_i h 382 4) → (vp_in ((69 + (6 * i2)) + (3 : Int32)) 769 ∧ ((((V_198 h i2 (3 : Int32)) < 2 → (vp_in ((69 + (6 * i2)) + (2 : Int32)) 769 ∧ True)) ∧ (¬ (V_198 h i2 (3 : Int32)) < 2 → True)) ∧ (∀ (v3 : Int32), v3 = (if (V_198 h i2 (3 : Int32)) < 2 then (V_198 h i2 (2 : Int32)) else 0) → H_289_4 (d + 1) h (i1 + v3) (i2 + 1) Q)))) ∧ (¬ i2 < (mx_i h 382 4) → Q (.inl (some (.int i1))) h))) : H_289_4 (d + 1) h i1 i2 Q := by
  show mx_wp (d + 1) 289 4 [some (.ref 381), some (.int i1), some (.int i2)] [] h Q
  refine wp_steps (i' := 9) (ls' := [some (.ref 381), some (.int i1), some (.int i2)]) (st' := [.int (mx_i h 382 4), .int i2]) (h' := h) (P := ((mxT 381).1 = 11 ∧ mxG h) ∧ (((mxT 382).1 = 50 ∧ mxG h) ∧ vp_in 4 (mxT 382).2) ∧ True) 5 rfl rfl ⟨⟨(congrArg Prod.fst sT_381), G⟩, (cA sT_382 G (vpl rfl)), trivial⟩ ?_
  refine wp_br (P := True) (c := (mx_i h 382 4) ≤ i2) (t := 27) (st' := []) rfl rfl trivial (fun c1 => ?_) (fun c1 => ?_)
  · have c1 := Int32.not_lt.mpr c1
    have H := H.2 c1
    refine wp_steps (i' := 28) (ls' := [some (.ref 381), some (.int i1), some (.int i2)]) (st' := [.int i1]) (h' := h) (P := True) 1 rfl rfl trivial ?_
    exact wp_end (o := .inl (some (.int i1))) (h' := h) (P := True) rfl rfl trivial H
  · have c1 := Int32.not_le.mp c1
    have H := H.1 c1
    refine wp_steps (i' := 14) (ls' := [some (.ref 381), some (.int i1), some (.int i2)]) (st' := [.int 3, .int i2, .ref 381, .int i1]) (h' := h) (P := True) 4 rfl rfl trivial ?_
    obtain ⟨o2, H⟩ := H
    refine wp_call (b := false) (y' := 198) (as := [.ref 381, .int i2, .int 3]) (rest := [.int i1]) (P := ((mxT 381).1 = mxRc 198 ∧ mxG h)) rfl (by with_unfolding_all rfl) ⟨(congrArg Prod.fst sT_381), G⟩ (Nat.le_of_ble_eq_true rfl) (sp_198 G o2 ?_)
    show mx_wp (d + 1) 289 15 [some (.ref 381), some (.int i1), some (.int i2)] [.int (V_198 h i2 (3 : Int32)), .int i1] h Q
    refine wp_steps (i' := 16) (ls' := [some (.ref 381), some (.int i1), some (.int i2)]) (st' := [.int 2, .int (V_198 h i2 (3 : Int32)), .int i1]) (h' := h) (P := True) 1 rfl rfl trivial ?_
    have J : ∀ (v3 : Int32) (ev3 : v3 = (if (V_198 h i2 (3 : Int32)) < 2 then (V_198 h i2 (2 : Int32)) else 0)), mx_wp (d + 1) 289 23 [some (.ref 381), some (.int i1), some (.int i2)] [.int v3, .int i1] h Q := by
      intro v3 ev3
      have H := H.2 v3 ev3
      refine wp_steps (i' := 26) (ls' := [some (.ref 381), some (.int (i1 + v3)), some (.int (i2 + 1))]) (st' := []) (h' := h) (P := True) 3 rfl rfl trivial ?_
      refine wp_J (j := 4) (st' := []) rfl rfl ?_
      exact H 
    have H := H.1
    refine wp_br (P := True) (c := 2 ≤ (V_198 h i2 (3 : Int32))) (t := 22) (st' := [.int i1]) rfl rfl trivial (fun c4 => ?_) (fun c4 => ?_)
    · have c4 := Int32.not_lt.mpr c4
      refine wp_steps (i' := 23) (ls' := [some (.ref 381), some (.int i1), some (.int i2)]) (st' := [.int 0, .int i1]) (h' := h) (P := True) 1 rfl rfl trivial ?_
      exact J _ (by rw [if_neg c4])
    · have c4 := Int32.not_le.mp c4
      have H := H.1 c4
      refine wp_steps (i' := 20) (ls' := [some (.ref 381), some (.int i1), some (.int i2)]) (st' := [.int 2, .int i2, .ref 381, .int i1]) (h' := h) (P := True) 3 rfl rfl trivial ?_
      obtain ⟨o5, H⟩ := H
      refine wp_call (b := false) (y' := 198) (as := [.ref 381, .int i2, .int 2]) (rest := [.int i1]) (P := ((mxT 381).1 = mxRc 198 ∧ mxG h)) rfl (by with_unfolding_all rfl) ⟨(congrArg Prod.fst sT_381), G⟩ (Nat.le_of_ble_eq_true rfl) (sp_198 G o5 ?_)
      show mx_wp (d + 1) 289 21 [some (.ref 381), some (.int i1), some (.int i2)] [.int (V_198 h i2 (2 : Int32)), .int i1] h Q
      refine wp_J (j := 23) (st' := [.int (V_198 h i2 (2 : Int32)), .int i1]) rfl rfl ?_
      exact J _ (by rw [if_pos c4])
def F_289_4 (h : mxH) (z : Nat) (s : Int32) : Int32 := (s + ((if (V_198 h (nI z) (3 : Int32)) < 2 then (V_198 h (nI z) (2 : Int32)) else 0) : Int32))
theorem lp_289_4 {d : Nat} {h : mxH} {Q : mxO → mxH → Prop} {s0 : Int32} {n : Nat} (z0 : Nat) (G : mxG h)  (hB : (mx_i h 382 4) = nI n) (hn : n < 2147483648) (hz : z0 ≤ n) (ob : ∀ z, z0 ≤ z → z < n → (vp_in ((69 + (6 * (nI z))) + (3 : Int32)) 769 ∧ ((((V_198 h (nI z) (3 : Int32)) < 2 → (vp_in ((69 + (6 * (nI z))) + (2 : Int32)) 769 ∧ True)) ∧ (¬ (V_198 h (nI z) (3 : Int32)) < 2 → True)) ∧ True))) (k : Q (.inl (some (.int (fz (F_289_4 h) z0 n s0)))) h) : H_289_4 (d + 1) h s0 (nI z0) Q := by
  have L : ∀ (j z : Nat), z0 ≤ z → z + j = n → H_289_4 (d + 1) h (fz (F_289_4 h) z0 z s0) (nI z) Q := by
    intro j
    induction j with
    | zero =>
      intro z hz0 hzn
      have hzn : z = n := by omega
      subst hzn
      refine tr_289_4 G  ⟨fun c9 => absurd (hB ▸ c9) Int32.lt_irrefl, fun c9 => k⟩
    | succ j ih =>
      intro z hz0 hzn
      have hih := ih (z + 1) (by omega) (by omega)
      rw [nI_succ, fz_s hz0] at hih
      have hob := ob z hz0 (by omega)
      refine tr_289_4 G  ⟨fun c9 => ?_, fun c9 => absurd (hB.symm ▸ nI_lt (by omega) hn) c9⟩
      obtain ⟨q0, hob⟩ := hob
      refine ⟨q0, ?_⟩
      obtain ⟨q0, hob⟩ := hob
      refine ⟨q0, ?_⟩
      intro v3 ev3
      subst ev3
      exact hih
  have L0 := L (n - z0) z0 (Nat.le_refl _) (by omega)
  simp only [fz_0] at L0
  exact L0
/-! 292: StoneBacksModel.hurtOnes()I -/
def H_292_4 (d : Nat) (h : mxH) (i1 : Int32) (i2 : Int32) (Q : mxO → mxH → Prop) : Prop := mx_wp d 292 4 [some (.ref 381), some (.int i1), some (.int i2)] [] h Q
set_option maxRecDepth 8000 in
theorem tr_292_0 {d : Nat} {h : mxH} {Q : mxO → mxH → Prop}  (G : mxG h)  (H : H_292_4 (d + 1) h 0 0 Q) : mx_wp (d + 1) 292 0 (mx_fr 292 [.ref 381]) [] h Q := by
  show mx_wp (d + 1) 292 0 [some (.ref 381), none, none] [] h Q
  refine wp_steps (i' := 4) (ls' := [some (.ref 381), some (.int 0), some (.int 0)]) (st' := []) (h' := h) (P := True) 4 rfl rfl trivial ?_
  exact H 
set_option maxRecDepth 8000 in
theorem tr_292_4 {d : Nat} {h : mxH} {Q : mxO → mxH → Prop}  {i1 : Int32} {i2 : Int32} (G : mxG h)  (H : ((i2 < (mx_i h 382 3) → (vp_in ((33 + (6 * i2)) + (5 : Int32)) 769 ∧ (∀ (v3 : Int32), v3 = (if (V_196 h i2 (5 : Int32)) = 1 then (1 <<< (i2 &&& 31)) else 0) → H_292_4 (d + 1) h (i1 ||| v3) (i2 + 1) Q))) ∧ (¬ i2 < (mx_i h 382 3) → Q (.inl (some (.int i1))) h))) : H_292_4 (d + 1) h i1 i2 Q := by
  show mx_wp (d + 1) 292 4 [some (.ref 381), some (.int i1), some (.int i2)] [] h Q
  refine wp_steps (i' := 9) (ls' := [some (.ref 381), some (.int i1), some (.int i2)]) (st' := [.int (mx_i h 382 3), .int i2]) (h' := h) (P := ((mxT 381).1 = 11 ∧ mxG h) ∧ (((mxT 382).1 = 50 ∧ mxG h) ∧ vp_in 3 (mxT 382).2) ∧ True) 5 rfl rfl ⟨⟨(congrArg Prod.fst sT_381), G⟩, (cA sT_382 G (vpl rfl)), trivial⟩ ?_
  refine wp_br (P := True) (c := (mx_i h 382 3) ≤ i2) (t := 26) (st' := []) rfl rfl trivial (fun c1 => ?_) (fun c1 => ?_)
  · have c1 := Int32.not_lt.mpr c1
    have H := H.2 c1
    refine wp_steps (i' := 27) (ls' := [some (.ref 381), some (.int i1), some (.int i2)]) (st' := [.int i1]) (h' := h) (P := True) 1 rfl rfl trivial ?_
    exact wp_end (o := .inl (some (.int i1))) (h' := h) (P := True) rfl rfl trivial H
  · have c1 := Int32.not_le.mp c1
    have H := H.1 c1
    refine wp_steps (i' := 14) (ls' := [some (.ref 381), some (.int i1), some (.int i2)]) (st' := [.int 5, .int i2, .ref 381, .int i1]) (h' := h) (P := True) 4 rfl rfl trivial ?_
    obtain ⟨o2, H⟩ := H
    refine wp_call (b := false) (y' := 196) (as := [.ref 381, .int i2, .int 5]) (rest := [.int i1]) (P := ((mxT 381).1 = mxRc 196 ∧ mxG h)) rfl (by with_unfolding_all rfl) ⟨(congrArg Prod.fst sT_381), G⟩ (Nat.le_of_ble_eq_true rfl) (sp_196 G o2 ?_)
    show mx_wp (d + 1) 292 15 [some (.ref 381), some (.int i1), some (.int i2)] [.int (V_196 h i2 (5 : Int32)), .int i1] h Q
    refine wp_steps (i' := 16) (ls' := [some (.ref 381), some (.int i1), some (.int i2)]) (st' := [.int 1, .int (V_196 h i2 (5 : Int32)), .int i1]) (h' := h) (P := True) 1 rfl rfl trivial ?_
    have J : ∀ (v3 : Int32) (ev3 : v3 = (if (V_196 h i2 (5 : Int32)) = 1 then (1 <<< (i2 &&& 31)) else 0)), mx_wp (d + 1) 292 22 [some (.ref 381), some (.int i1), some (.int i2)] [.int v3, .int i1] h Q := by
      intro v3 ev3
      have H := H v3 ev3
      refine wp_steps (i' := 25) (ls' := [some (.ref 381), some (.int (i1 ||| v3)), some (.int (i2 + 1))]) (st' := []) (h' := h) (P := True) 3 rfl rfl trivial ?_
      refine wp_J (j := 4) (st' := []) rfl rfl ?_
      exact H 
    refine wp_br (P := True) (c := ¬ (V_196 h i2 (5 : Int32)) = 1) (t := 21) (st' := [.int i1]) rfl rfl trivial (fun c4 => ?_) (fun c4 => ?_)
    · skip
      refine wp_steps (i' := 22) (ls' := [some (.ref 381), some (.int i1), some (.int i2)]) (st' := [.int 0, .int i1]) (h' := h) (P := True) 1 rfl rfl trivial ?_
      exact J _ (by rw [if_neg c4])
    · have c4 := Decidable.of_not_not c4
      refine wp_steps (i' := 20) (ls' := [some (.ref 381), some (.int i1), some (.int i2)]) (st' := [.int (1 <<< (i2 &&& 31)), .int i1]) (h' := h) (P := True) 3 rfl rfl trivial ?_
      refine wp_J (j := 22) (st' := [.int (1 <<< (i2 &&& 31)), .int i1]) rfl rfl ?_
      exact J _ (by rw [if_pos c4])
def F_292_4 (h : mxH) (z : Nat) (s : Int32) : Int32 := (s ||| ((if (V_196 h (nI z) (5 : Int32)) = 1 then (1 <<< ((nI z) &&& 31)) else 0) : Int32))
theorem lp_292_4 {d : Nat} {h : mxH} {Q : mxO → mxH → Prop} {s0 : Int32} {n : Nat} (z0 : Nat) (G : mxG h)  (hB : (mx_i h 382 3) = nI n) (hn : n < 2147483648) (hz : z0 ≤ n) (ob : ∀ z, z0 ≤ z → z < n → (vp_in ((33 + (6 * (nI z))) + (5 : Int32)) 769 ∧ True)) (k : Q (.inl (some (.int (fz (F_292_4 h) z0 n s0)))) h) : H_292_4 (d + 1) h s0 (nI z0) Q := by
  have L : ∀ (j z : Nat), z0 ≤ z → z + j = n → H_292_4 (d + 1) h (fz (F_292_4 h) z0 z s0) (nI z) Q := by
    intro j
    induction j with
    | zero =>
      intro z hz0 hzn
      have hzn : z = n := by omega
      subst hzn
      refine tr_292_4 G  ⟨fun c9 => absurd (hB ▸ c9) Int32.lt_irrefl, fun c9 => k⟩
    | succ j ih =>
      intro z hz0 hzn
      have hih := ih (z + 1) (by omega) (by omega)
      rw [nI_succ, fz_s hz0] at hih
      have hob := ob z hz0 (by omega)
      refine tr_292_4 G  ⟨fun c9 => ?_, fun c9 => absurd (hB.symm ▸ nI_lt (by omega) hn) c9⟩
      obtain ⟨q0, hob⟩ := hob
      refine ⟨q0, ?_⟩
      intro v3 ev3
      subst ev3
      exact hih
  have L0 := L (n - z0) z0 (Nat.le_refl _) (by omega)
  simp only [fz_0] at L0
  exact L0
/-! 293: StoneBacksModel.purses()I -/
def H_293_4 (d : Nat) (h : mxH) (i1 : Int32) (i2 : Int32) (Q : mxO → mxH → Prop) : Prop := mx_wp d 293 4 [some (.ref 381), some (.int i1), some (.int i2)] [] h Q
set_option maxRecDepth 8000 in
theorem tr_293_0 {d : Nat} {h : mxH} {Q : mxO → mxH → Prop}  (G : mxG h)  (H : H_293_4 (d + 1) h 0 0 Q) : mx_wp (d + 1) 293 0 (mx_fr 293 [.ref 381]) [] h Q := by
  show mx_wp (d + 1) 293 0 [some (.ref 381), none, none] [] h Q
  refine wp_steps (i' := 4) (ls' := [some (.ref 381), some (.int 0), some (.int 0)]) (st' := []) (h' := h) (P := True) 4 rfl rfl trivial ?_
  exact H 
set_option maxRecDepth 8000 in
theorem tr_293_4 {d : Nat} {h : mxH} {Q : mxO → mxH → Prop}  {i1 : Int32} {i2 : Int32} (G : mxG h)  (H : ((i2 < (mx_i h 382 3) → (vp_in ((33 + (6 * i2)) + (0 : Int32)) 769 ∧ H_293_4 (d + 1) h (i1 + (V_196 h i2 (0 : Int32))) (i2 + 1) Q)) ∧ (¬ i2 < (mx_i h 382 3) → Q (.inl (some (.int i1))) h))) : H_293_4 (d + 1) h i1 i2 Q := by
  show mx_wp (d + 1) 293 4 [some (.ref 381), some (.int i1), some (.int i2)] [] h Q
  refine wp_steps (i' := 9) (ls' := [some (.ref 381), some (.int i1), some (.int i2)]) (st' := [.int (mx_i h 382 3), .int i2]) (h' := h) (P := ((mxT 381).1 = 11 ∧ mxG h) ∧ (((mxT 382).1 = 50 ∧ mxG h) ∧ vp_in 3 (mxT 382).2) ∧ True) 5 rfl rfl ⟨⟨(congrArg Prod.fst sT_381), G⟩, (cA sT_382 G (vpl rfl)), trivial⟩ ?_
  refine wp_br (P := True) (c := (mx_i h 382 3) ≤ i2) (t := 19) (st' := []) rfl rfl trivial (fun c1 => ?_) (fun c1 => ?_)
  · have c1 := Int32.not_lt.mpr c1
    have H := H.2 c1
    refine wp_steps (i' := 20) (ls' := [some (.ref 381), some (.int i1), some (.int i2)]) (st' := [.int i1]) (h' := h) (P := True) 1 rfl rfl trivial ?_
    exact wp_end (o := .inl (some (.int i1))) (h' := h) (P := True) rfl rfl trivial H
  · have c1 := Int32.not_le.mp c1
    have H := H.1 c1
    refine wp_steps (i' := 14) (ls' := [some (.ref 381), some (.int i1), some (.int i2)]) (st' := [.int 0, .int i2, .ref 381, .int i1]) (h' := h) (P := True) 4 rfl rfl trivial ?_
    obtain ⟨o2, H⟩ := H
    refine wp_call (b := false) (y' := 196) (as := [.ref 381, .int i2, .int 0]) (rest := [.int i1]) (P := ((mxT 381).1 = mxRc 196 ∧ mxG h)) rfl (by with_unfolding_all rfl) ⟨(congrArg Prod.fst sT_381), G⟩ (Nat.le_of_ble_eq_true rfl) (sp_196 G o2 ?_)
    show mx_wp (d + 1) 293 15 [some (.ref 381), some (.int i1), some (.int i2)] [.int (V_196 h i2 (0 : Int32)), .int i1] h Q
    refine wp_steps (i' := 18) (ls' := [some (.ref 381), some (.int (i1 + (V_196 h i2 (0 : Int32)))), some (.int (i2 + 1))]) (st' := []) (h' := h) (P := True) 3 rfl rfl trivial ?_
    refine wp_J (j := 4) (st' := []) rfl rfl ?_
    exact H 
def F_293_4 (h : mxH) (z : Nat) (s : Int32) : Int32 := (s + (V_196 h (nI z) (0 : Int32)))
theorem lp_293_4 {d : Nat} {h : mxH} {Q : mxO → mxH → Prop} {s0 : Int32} {n : Nat} (z0 : Nat) (G : mxG h)  (hB : (mx_i h 382 3) = nI n) (hn : n < 2147483648) (hz : z0 ≤ n) (ob : ∀ z, z0 ≤ z → z < n → (vp_in ((33 + (6 * (nI z))) + (0 : Int32)) 769 ∧ True)) (k : Q (.inl (some (.int (fz (F_293_4 h) z0 n s0)))) h) : H_293_4 (d + 1) h s0 (nI z0) Q := by
  have L : ∀ (j z : Nat), z0 ≤ z → z + j = n → H_293_4 (d + 1) h (fz (F_293_4 h) z0 z s0) (nI z) Q := by
    intro j
    induction j with
    | zero =>
      intro z hz0 hzn
      have hzn : z = n := by omega
      subst hzn
      refine tr_293_4 G  ⟨fun c9 => absurd (hB ▸ c9) Int32.lt_irrefl, fun c9 => k⟩
    | succ j ih =>
      intro z hz0 hzn
      have hih := ih (z + 1) (by omega) (by omega)
      rw [nI_succ, fz_s hz0] at hih
      have hob := ob z hz0 (by omega)
      refine tr_293_4 G  ⟨fun c9 => ?_, fun c9 => absurd (hB.symm ▸ nI_lt (by omega) hn) c9⟩
      obtain ⟨q0, hob⟩ := hob
      refine ⟨q0, ?_⟩
      exact hih
  have L0 := L (n - z0) z0 (Nat.le_refl _) (by omega)
  simp only [fz_0] at L0
  exact L0
/-! 296: StoneBacksModel.logged(II)I -/
set_option maxRecDepth 8000 in
theorem tr_296_0 {d : Nat} {h : mxH} {Q : mxO → mxH → Prop} {i1 : Int32} {i2 : Int32} (G : mxG h)  (H : (vp_in ((129 + (4 * i1)) + i2) 769 ∧ Q (.inl (some (.int (mx_i h 382 ((129 + (4 * i1)) + i2).toNatClampNeg)))) h)) : mx_wp d 296 0 (mx_fr 296 [.ref 381, .int i1, .int i2]) [] h Q := by
  show mx_wp d 296 0 [some (.ref 381), some (.int i1), some (.int i2)] [] h Q
  obtain ⟨o1, H⟩ := H
  refine wp_steps (i' := 10) (ls' := [some (.ref 381), some (.int i1), some (.int i2)]) (st' := [.int (mx_i h 382 ((129 + (4 * i1)) + i2).toNatClampNeg)]) (h' := h) (P := ((mxT 381).1 = 11 ∧ mxG h) ∧ (((mxT 382).1 = 50 ∧ mxG h) ∧ vp_in ((129 + (4 * i1)) + i2) (mxT 382).2) ∧ True) 10 rfl rfl ⟨⟨(congrArg Prod.fst sT_381), G⟩, (cA sT_382 G o1), trivial⟩ ?_
  exact wp_end (o := .inl (some (.int (mx_i h 382 ((129 + (4 * i1)) + i2).toNatClampNeg)))) (h' := h) (P := True) rfl rfl trivial H
def V_296 (h : mxH) (i1 : Int32) (i2 : Int32) : Int32 := (mx_i h 382 ((129 + (4 * i1)) + i2).toNatClampNeg)
theorem sp_296 {d : Nat} {h : mxH} {Q : mxO → mxH → Prop} {i1 : Int32} {i2 : Int32} (G : mxG h)  (x0 : vp_in ((129 + (4 * i1)) + i2) 769) (k : Q (.inl (some (.int (V_296 h i1 i2)))) h) : mx_wp d 296 0 (mx_fr 296 [.ref 381, .int i1, .int i2]) [] h Q := by
  unfold V_296 at k
  have hob : (vp_in ((129 + (4 * i1)) + i2) 769 ∧ True) := ⟨x0, trivial⟩
  refine tr_296_0 G  ?_
  obtain ⟨q0, hob⟩ := hob
  refine ⟨q0, ?_⟩
  exact k
/-! 297: StoneBacksModel.led(IZ)I -/
def H_297_25 (d : Nat) (h : mxH) (i1 : Int32) (i2 : Int32) (i3 : Int32) (i4 : Int32) (i5 : Int32) (Q : mxO → mxH → Prop) : Prop := mx_wp d 297 25 [some (.ref 381), some (.int i1), some (.int i2), some (.int i3), some (.int i4), some (.int i5)] [] h Q
set_option maxRecDepth 8000 in
theorem tr_297_0 {d : Nat} {h : mxH} {Q : mxO → mxH → Prop} {i1 : Int32} {i2 : Int32} (G : mxG h)  (H : (((V_191 h i1 (0 : Int32) ((mx_i h 382 4) - 1)) = 0 ∨ (V_191 h i1 (0 : Int32) ((mx_i h 382 4) - 1)) = 1) ∧ (∀ (v2 : Int32), v2 = (if (V_201 h i1) = 0 then 1 else 0) → (∀ h3, h3 = mx_wi h 381 0 v2 → ((0 < (mx_i h3 381 0) → Q (.inl (some (.int 0))) h3) ∧ (¬ 0 < (mx_i h3 381 0) → H_297_25 (d + 2) h3 i1 i2 0 (-1) ((mx_i h3 382 7) - 1) Q)))))) : mx_wp (d + 2) 297 0 (mx_fr 297 [.ref 381, .int i1, .int i2]) [] h Q := by
  show mx_wp (d + 2) 297 0 [some (.ref 381), some (.int i1), some (.int i2), none, none, none] [] h Q
  refine wp_steps (i' := 3) (ls' := [some (.ref 381), some (.int i1), some (.int i2), none, none, none]) (st' := [.int i1, .ref 381, .ref 381]) (h' := h) (P := True) 3 rfl rfl trivial ?_
  obtain ⟨o1, H⟩ := H
  refine wp_call (b := false) (y' := 201) (as := [.ref 381, .int i1]) (rest := [.ref 381]) (P := ((mxT 381).1 = mxRc 201 ∧ mxG h)) rfl (by with_unfolding_all rfl) ⟨(congrArg Prod.fst sT_381), G⟩ (Nat.le_of_ble_eq_true rfl) (sp_201 G o1 ?_)
  show mx_wp (d + 2) 297 4 [some (.ref 381), some (.int i1), some (.int i2), none, none, none] [.int (V_201 h i1), .ref 381] h Q
  have J : ∀ (v2 : Int32) (ev2 : v2 = (if (V_201 h i1) = 0 then 1 else 0)), mx_wp (d + 2) 297 8 [some (.ref 381), some (.int i1), some (.int i2), none, none, none] [.int v2, .ref 381] h Q := by
    intro v2 ev2
    have H := H v2 ev2
    refine wp_steps (i' := 9) (ls' := [some (.ref 381), some (.int i1), some (.int i2), none, none, none]) (st' := []) (h' := mx_wi h 381 0 v2) (P := ((mxT 381).1 = 11 ∧ mxG h) ∧ True) 1 rfl rfl ⟨⟨(congrArg Prod.fst sT_381), G⟩, trivial⟩ ?_
    obtain ⟨h3, e4⟩ : ∃ z9, z9 = mx_wi h 381 0 v2 := ⟨_, rfl⟩
    rw [← e4]
    have H := H h3 e4
    have G5 : mxG h3 := e4 ▸ mxG_wi G
    refine wp_steps (i' := 11) (ls' := [some (.ref 381), some (.int i1), some (.int i2), none, none, none]) (st' := [.int (mx_i h3 381 0)]) (h' := h3) (P := ((mxT 381).1 = 11 ∧ mxG h3) ∧ True) 2 rfl rfl ⟨⟨(congrArg Prod.fst sT_381), G5⟩, trivial⟩ ?_
    refine wp_br (P := True) (c := (mx_i h3 381 0) ≤ 0) (t := 14) (st' := []) rfl rfl trivial (fun c6 => ?_) (fun c6 => ?_)
    · have c6 := Int32.not_lt.mpr c6
      have H := H.2 c6
      refine wp_steps (i' := 25) (ls' := [some (.ref 381), some (.int i1), some (.int i2), some (.int 0), some (.int (-1)), some (.int ((mx_i h3 382 7) - 1))]) (st' := []) (h' := h3) (P := ((mxT 381).1 = 11 ∧ mxG h3) ∧ (((mxT 382).1 = 50 ∧ mxG h3) ∧ vp_in 7 (mxT 382).2) ∧ True) 11 rfl rfl ⟨⟨(congrArg Prod.fst sT_381), G5⟩, (cA sT_382 G5 (vpl rfl)), trivial⟩ ?_
      exact H 
    · have c6 := Int32.not_le.mp c6
      have H := H.1 c6
      refine wp_steps (i' := 13) (ls' := [some (.ref 381), some (.int i1), some (.int i2), none, none, none]) (st' := [.int 0]) (h' := h3) (P := True) 1 rfl rfl trivial ?_
      exact wp_end (o := .inl (some (.int 0))) (h' := h3) (P := True) rfl rfl trivial H
  refine wp_br (P := True) (c := ¬ (V_201 h i1) = 0) (t := 7) (st' := [.ref 381]) rfl rfl trivial (fun c7 => ?_) (fun c7 => ?_)
  · skip
    refine wp_steps (i' := 8) (ls' := [some (.ref 381), some (.int i1), some (.int i2), none, none, none]) (st' := [.int 0, .ref 381]) (h' := h) (P := True) 1 rfl rfl trivial ?_
    exact J _ (by rw [if_neg c7])
  · have c7 := Decidable.of_not_not c7
    refine wp_steps (i' := 6) (ls' := [some (.ref 381), some (.int i1), some (.int i2), none, none, none]) (st' := [.int 1, .ref 381]) (h' := h) (P := True) 1 rfl rfl trivial ?_
    refine wp_J (j := 8) (st' := [.int 1, .ref 381]) rfl rfl ?_
    exact J _ (by rw [if_pos c7])
set_option maxRecDepth 8000 in
theorem tr_297_25 {d : Nat} {h : mxH} {Q : mxO → mxH → Prop}  {i1 : Int32} {i2 : Int32} {i3 : Int32} {i4 : Int32} {i5 : Int32} (G : mxG h)  (H : ((i5 < 0 → (∀ (v2 : Int32), v2 = (if i2 = 0 then i3 else i4) → Q (.inl (some (.int v2))) h)) ∧ (¬ i5 < 0 → (vp_in ((129 + (4 * i5)) + (1 : Int32)) 769 ∧ ((((V_296 h i5 (1 : Int32)) = i1 → (vp_in ((129 + (4 * i5)) + (0 : Int32)) 769 ∧ True)) ∧ (¬ (V_296 h i5 (1 : Int32)) = i1 → True)) ∧ (∀ (v5 : Int32), v5 = (if (V_296 h i5 (1 : Int32)) = i1 then (i3 + 1) else i3) → (∀ (v6 : Int32), v6 = (if (V_296 h i5 (1 : Int32)) = i1 then (V_296 h i5 (0 : Int32)) else i4) → H_297_25 (d + 2) h i1 i2 v5 v6 (i5 + (-1)) Q))))))) : H_297_25 (d + 2) h i1 i2 i3 i4 i5 Q := by
  show mx_wp (d + 2) 297 25 [some (.ref 381), some (.int i1), some (.int i2), some (.int i3), some (.int i4), some (.int i5)] [] h Q
  refine wp_steps (i' := 26) (ls' := [some (.ref 381), some (.int i1), some (.int i2), some (.int i3), some (.int i4), some (.int i5)]) (st' := [.int i5]) (h' := h) (P := True) 1 rfl rfl trivial ?_
  refine wp_br (P := True) (c := i5 < 0) (t := 42) (st' := []) rfl rfl trivial (fun c1 => ?_) (fun c1 => ?_)
  · skip
    have H := H.1 c1
    refine wp_steps (i' := 43) (ls' := [some (.ref 381), some (.int i1), some (.int i2), some (.int i3), some (.int i4), some (.int i5)]) (st' := [.int i2]) (h' := h) (P := True) 1 rfl rfl trivial ?_
    have J : ∀ (v2 : Int32) (ev2 : v2 = (if i2 = 0 then i3 else i4)), mx_wp (d + 2) 297 47 [some (.ref 381), some (.int i1), some (.int i2), some (.int i3), some (.int i4), some (.int i5)] [.int v2] h Q := by
      intro v2 ev2
      have H := H v2 ev2
      exact wp_end (o := .inl (some (.int v2))) (h' := h) (P := True) rfl rfl trivial H
    refine wp_br (P := True) (c := i2 = 0) (t := 46) (st' := []) rfl rfl trivial (fun c3 => ?_) (fun c3 => ?_)
    · skip
      refine wp_steps (i' := 47) (ls' := [some (.ref 381), some (.int i1), some (.int i2), some (.int i3), some (.int i4), some (.int i5)]) (st' := [.int i3]) (h' := h) (P := True) 1 rfl rfl trivial ?_
      exact J _ (by rw [if_pos c3])
    · skip
      refine wp_steps (i' := 45) (ls' := [some (.ref 381), some (.int i1), some (.int i2), some (.int i3), some (.int i4), some (.int i5)]) (st' := [.int i4]) (h' := h) (P := True) 1 rfl rfl trivial ?_
      refine wp_J (j := 47) (st' := [.int i4]) rfl rfl ?_
      exact J _ (by rw [if_neg c3])
  · skip
    have H := H.2 c1
    refine wp_steps (i' := 30) (ls' := [some (.ref 381), some (.int i1), some (.int i2), some (.int i3), some (.int i4), some (.int i5)]) (st' := [.int 1, .int i5, .ref 381]) (h' := h) (P := True) 3 rfl rfl trivial ?_
    obtain ⟨o4, H⟩ := H
    refine wp_call (b := false) (y' := 296) (as := [.ref 381, .int i5, .int 1]) (rest := []) (P := ((mxT 381).1 = mxRc 296 ∧ mxG h)) rfl (by with_unfolding_all rfl) ⟨(congrArg Prod.fst sT_381), G⟩ (Nat.le_of_ble_eq_true rfl) (sp_296 G o4 ?_)
    show mx_wp (d + 2) 297 31 [some (.ref 381), some (.int i1), some (.int i2), some (.int i3), some (.int i4), some (.int i5)] [.int (V_296 h i5 (1 : Int32))] h Q
    refine wp_steps (i' := 32) (ls' := [some (.ref 381), some (.int i1), some (.int i2), some (.int i3), some (.int i4), some (.int i5)]) (st' := [.int i1, .int (V_296 h i5 (1 : Int32))]) (h' := h) (P := True) 1 rfl rfl trivial ?_
    have J : ∀ (v5 : Int32) (v6 : Int32) (ev5 : v5 = (if (V_296 h i5 (1 : Int32)) = i1 then (i3 + 1) else i3)) (ev6 : v6 = (if (V_296 h i5 (1 : Int32)) = i1 then (V_296 h i5 (0 : Int32)) else i4)), mx_wp (d + 2) 297 40 [some (.ref 381), some (.int i1), some (.int i2), some (.int v5), some (.int v6), some (.int i5)] [] h Q := by
      intro v5 v6 ev5 ev6
      have H := H.2 v5 ev5 v6 ev6
      refine wp_steps (i' := 41) (ls' := [some (.ref 381), some (.int i1), some (.int i2), some (.int v5), some (.int v6), some (.int (i5 + (-1)))]) (st' := []) (h' := h) (P := True) 1 rfl rfl trivial ?_
      refine wp_J (j := 25) (st' := []) rfl rfl ?_
      exact H 
    have H := H.1
    refine wp_br (P := True) (c := (V_296 h i5 (1 : Int32)) = i1) (t := 34) (st' := []) rfl rfl trivial (fun c7 => ?_) (fun c7 => ?_)
    · skip
      have H := H.1 c7
      refine wp_steps (i' := 38) (ls' := [some (.ref 381), some (.int i1), some (.int i2), some (.int (i3 + 1)), some (.int i4), some (.int i5)]) (st' := [.int 0, .int i5, .ref 381]) (h' := h) (P := True) 4 rfl rfl trivial ?_
      obtain ⟨o8, H⟩ := H
      refine wp_call (b := false) (y' := 296) (as := [.ref 381, .int i5, .int 0]) (rest := []) (P := ((mxT 381).1 = mxRc 296 ∧ mxG h)) rfl (by with_unfolding_all rfl) ⟨(congrArg Prod.fst sT_381), G⟩ (Nat.le_of_ble_eq_true rfl) (sp_296 G o8 ?_)
      show mx_wp (d + 2) 297 39 [some (.ref 381), some (.int i1), some (.int i2), some (.int (i3 + 1)), some (.int i4), some (.int i5)] [.int (V_296 h i5 (0 : Int32))] h Q
      refine wp_steps (i' := 40) (ls' := [some (.ref 381), some (.int i1), some (.int i2), some (.int (i3 + 1)), some (.int (V_296 h i5 (0 : Int32))), some (.int i5)]) (st' := []) (h' := h) (P := True) 1 rfl rfl trivial ?_
      exact J _ _ (by rw [if_pos c7]) (by rw [if_pos c7])
    · skip
      refine wp_J (j := 40) (st' := []) rfl rfl ?_
      exact J _ _ (by rw [if_neg c7]) (by rw [if_neg c7])
/-! 298: StoneBacksModel.log(II)I -/
set_option maxRecDepth 8000 in
theorem tr_298_0 {d : Nat} {h : mxH} {Q : mxO → mxH → Prop} {i1 : Int32} {i2 : Int32} (G : mxG h)  (H : (∀ (v1 : Int32), v1 = (if (V_191 h i2 (0 : Int32) (3 : Int32)) = 0 then 1 else 0) → (∀ h2, h2 = mx_wi h 381 0 v1 → ((0 < (mx_i h2 381 0) → Q (.inl (some (.int 0))) h2) ∧ (¬ 0 < (mx_i h2 381 0) → ((((V_191 h2 i1 (0 : Int32) ((mx_i h2 382 7) - 1)) = 0 → True) ∧ (¬ (V_191 h2 i1 (0 : Int32) ((mx_i h2 382 7) - 1)) = 0 → (vp_in ((129 + (4 * i1)) + i2) 769 ∧ True))) ∧ (∀ (v6 : Int32), v6 = (if (V_191 h2 i1 (0 : Int32) ((mx_i h2 382 7) - 1)) = 0 then (-1) else (V_296 h2 i1 i2)) → Q (.inl (some (.int v6))) h2))))))) : mx_wp (d + 1) 298 0 (mx_fr 298 [.ref 381, .int i1, .int i2]) [] h Q := by
  show mx_wp (d + 1) 298 0 [some (.ref 381), some (.int i1), some (.int i2)] [] h Q
  refine wp_steps (i' := 4) (ls' := [some (.ref 381), some (.int i1), some (.int i2)]) (st' := [.int 3, .int 0, .int i2, .ref 381]) (h' := h) (P := True) 4 rfl rfl trivial ?_
  refine wp_call (b := false) (y' := 191) (as := [.int i2, .int 0, .int 3]) (rest := [.ref 381]) (P := True) rfl (by with_unfolding_all rfl) trivial (Nat.le_of_ble_eq_true rfl) (sp_191 G ?_)
  show mx_wp (d + 1) 298 5 [some (.ref 381), some (.int i1), some (.int i2)] [.int (V_191 h i2 (0 : Int32) (3 : Int32)), .ref 381] h Q
  have J : ∀ (v1 : Int32) (ev1 : v1 = (if (V_191 h i2 (0 : Int32) (3 : Int32)) = 0 then 1 else 0)), mx_wp (d + 1) 298 9 [some (.ref 381), some (.int i1), some (.int i2)] [.int v1, .ref 381] h Q := by
    intro v1 ev1
    have H := H v1 ev1
    refine wp_steps (i' := 10) (ls' := [some (.ref 381), some (.int i1), some (.int i2)]) (st' := []) (h' := mx_wi h 381 0 v1) (P := ((mxT 381).1 = 11 ∧ mxG h) ∧ True) 1 rfl rfl ⟨⟨(congrArg Prod.fst sT_381), G⟩, trivial⟩ ?_
    obtain ⟨h2, e3⟩ : ∃ z9, z9 = mx_wi h 381 0 v1 := ⟨_, rfl⟩
    rw [← e3]
    have H := H h2 e3
    have G4 : mxG h2 := e3 ▸ mxG_wi G
    refine wp_steps (i' := 12) (ls' := [some (.ref 381), some (.int i1), some (.int i2)]) (st' := [.int (mx_i h2 381 0)]) (h' := h2) (P := ((mxT 381).1 = 11 ∧ mxG h2) ∧ True) 2 rfl rfl ⟨⟨(congrArg Prod.fst sT_381), G4⟩, trivial⟩ ?_
    refine wp_br (P := True) (c := (mx_i h2 381 0) ≤ 0) (t := 15) (st' := []) rfl rfl trivial (fun c5 => ?_) (fun c5 => ?_)
    · have c5 := Int32.not_lt.mpr c5
      have H := H.2 c5
      refine wp_steps (i' := 23) (ls' := [some (.ref 381), some (.int i1), some (.int i2)]) (st' := [.int ((mx_i h2 382 7) - 1), .int 0, .int i1]) (h' := h2) (P := ((mxT 381).1 = 11 ∧ mxG h2) ∧ (((mxT 382).1 = 50 ∧ mxG h2) ∧ vp_in 7 (mxT 382).2) ∧ True) 8 rfl rfl ⟨⟨(congrArg Prod.fst sT_381), G4⟩, (cA sT_382 G4 (vpl rfl)), trivial⟩ ?_
      refine wp_call (b := false) (y' := 191) (as := [.int i1, .int 0, .int ((mx_i h2 382 7) - 1)]) (rest := []) (P := True) rfl (by with_unfolding_all rfl) trivial (Nat.le_of_ble_eq_true rfl) (sp_191 G4 ?_)
      show mx_wp (d + 1) 298 24 [some (.ref 381), some (.int i1), some (.int i2)] [.int (V_191 h2 i1 (0 : Int32) ((mx_i h2 382 7) - 1))] h2 Q
      have J : ∀ (v6 : Int32) (ev6 : v6 = (if (V_191 h2 i1 (0 : Int32) ((mx_i h2 382 7) - 1)) = 0 then (-1) else (V_296 h2 i1 i2))), mx_wp (d + 1) 298 31 [some (.ref 381), some (.int i1), some (.int i2)] [.int v6] h2 Q := by
        intro v6 ev6
        have H := H.2 v6 ev6
        exact wp_end (o := .inl (some (.int v6))) (h' := h2) (P := True) rfl rfl trivial H
      have H := H.1
      refine wp_br (P := True) (c := (V_191 h2 i1 (0 : Int32) ((mx_i h2 382 7) - 1)) = 0) (t := 30) (st' := []) rfl rfl trivial (fun c7 => ?_) (fun c7 => ?_)
      · skip
        refine wp_steps (i' := 31) (ls' := [some (.ref 381), some (.int i1), some (.int i2)]) (st' := [.int (-1)]) (h' := h2) (P := True) 1 rfl rfl trivial ?_
        exact J _ (by rw [if_pos c7])
      · skip
        have H := H.2 c7
        refine wp_steps (i' := 28) (ls' := [some (.ref 381), some (.int i1), some (.int i2)]) (st' := [.int i2, .int i1, .ref 381]) (h' := h2) (P := True) 3 rfl rfl trivial ?_
        obtain ⟨o8, H⟩ := H
        refine wp_call (b := false) (y' := 296) (as := [.ref 381, .int i1, .int i2]) (rest := []) (P := ((mxT 381).1 = mxRc 296 ∧ mxG h2)) rfl (by with_unfolding_all rfl) ⟨(congrArg Prod.fst sT_381), G4⟩ (Nat.le_of_ble_eq_true rfl) (sp_296 G4 o8 ?_)
        show mx_wp (d + 1) 298 29 [some (.ref 381), some (.int i1), some (.int i2)] [.int (V_296 h2 i1 i2)] h2 Q
        refine wp_J (j := 31) (st' := [.int (V_296 h2 i1 i2)]) rfl rfl ?_
        exact J _ (by rw [if_neg c7])
    · have c5 := Int32.not_le.mp c5
      have H := H.1 c5
      refine wp_steps (i' := 14) (ls' := [some (.ref 381), some (.int i1), some (.int i2)]) (st' := [.int 0]) (h' := h2) (P := True) 1 rfl rfl trivial ?_
      exact wp_end (o := .inl (some (.int 0))) (h' := h2) (P := True) rfl rfl trivial H
  refine wp_br (P := True) (c := ¬ (V_191 h i2 (0 : Int32) (3 : Int32)) = 0) (t := 8) (st' := [.ref 381]) rfl rfl trivial (fun c9 => ?_) (fun c9 => ?_)
  · skip
    refine wp_steps (i' := 9) (ls' := [some (.ref 381), some (.int i1), some (.int i2)]) (st' := [.int 0, .ref 381]) (h' := h) (P := True) 1 rfl rfl trivial ?_
    exact J _ (by rw [if_neg c9])
  · have c9 := Decidable.of_not_not c9
    refine wp_steps (i' := 7) (ls' := [some (.ref 381), some (.int i1), some (.int i2)]) (st' := [.int 1, .ref 381]) (h' := h) (P := True) 1 rfl rfl trivial ?_
    refine wp_J (j := 9) (st' := [.int 1, .ref 381]) rfl rfl ?_
    exact J _ (by rw [if_pos c9])
def V_298 (h : mxH) (i1 : Int32) (i2 : Int32) : Int32 := (if 0 < (mx_i (mx_wi h 381 0 ((if (V_191 h i2 (0 : Int32) (3 : Int32)) = 0 then 1 else 0) : Int32)) 381 0) then 0 else ((if (V_191 (mx_wi h 381 0 ((if (V_191 h i2 (0 : Int32) (3 : Int32)) = 0 then 1 else 0) : Int32)) i1 (0 : Int32) ((mx_i (mx_wi h 381 0 ((if (V_191 h i2 (0 : Int32) (3 : Int32)) = 0 then 1 else 0) : Int32)) 382 7) - 1)) = 0 then (-1) else (V_296 (mx_wi h 381 0 ((if (V_191 h i2 (0 : Int32) (3 : Int32)) = 0 then 1 else 0) : Int32)) i1 i2)) : Int32))
def W_298 (h : mxH) (i1 : Int32) (i2 : Int32) : mxH := (mx_wi h 381 0 ((if (V_191 h i2 (0 : Int32) (3 : Int32)) = 0 then 1 else 0) : Int32))
theorem KW_298 {h : mxH} {i1 : Int32} {i2 : Int32} : mxK h (W_298 h i1 i2) := by
  unfold W_298
  repeat' (first | with_reducible exact mxK_rfl | with_reducible exact mxK_wi | with_reducible exact mxK_wrow | with_reducible refine mxK_ite ?_ ?_ | with_reducible refine mxK_tr ?_ mxK_wi | with_reducible refine mxK_tr ?_ mxK_wrow)
theorem sp_298 {d : Nat} {h : mxH} {Q : mxO → mxH → Prop} {i1 : Int32} {i2 : Int32} (G : mxG h)  (x0 : ((0 < (mx_i (mx_wi h 381 0 ((if (V_191 h i2 (0 : Int32) (3 : Int32)) = 0 then 1 else 0) : Int32)) 381 0) → True) ∧ (¬ 0 < (mx_i (mx_wi h 381 0 ((if (V_191 h i2 (0 : Int32) (3 : Int32)) = 0 then 1 else 0) : Int32)) 381 0) → ((((V_191 (mx_wi h 381 0 ((if (V_191 h i2 (0 : Int32) (3 : Int32)) = 0 then 1 else 0) : Int32)) i1 (0 : Int32) ((mx_i (mx_wi h 381 0 ((if (V_191 h i2 (0 : Int32) (3 : Int32)) = 0 then 1 else 0) : Int32)) 382 7) - 1)) = 0 → True) ∧ (¬ (V_191 (mx_wi h 381 0 ((if (V_191 h i2 (0 : Int32) (3 : Int32)) = 0 then 1 else 0) : Int32)) i1 (0 : Int32) ((mx_i (mx_wi h 381 0 ((if (V_191 h i2 (0 : Int32) (3 : Int32)) = 0 then 1 else 0) : Int32)) 382 7) - 1)) = 0 → (vp_in ((129 + (4 * i1)) + i2) 769 ∧ True))) ∧ True)))) (k : Q (.inl (some (.int (V_298 h i1 i2)))) (W_298 h i1 i2)) : mx_wp (d + 1) 298 0 (mx_fr 298 [.ref 381, .int i1, .int i2]) [] h Q := by
  unfold V_298 W_298 at k
  have hob : ((0 < (mx_i (mx_wi h 381 0 ((if (V_191 h i2 (0 : Int32) (3 : Int32)) = 0 then 1 else 0) : Int32)) 381 0) → True) ∧ (¬ 0 < (mx_i (mx_wi h 381 0 ((if (V_191 h i2 (0 : Int32) (3 : Int32)) = 0 then 1 else 0) : Int32)) 381 0) → ((((V_191 (mx_wi h 381 0 ((if (V_191 h i2 (0 : Int32) (3 : Int32)) = 0 then 1 else 0) : Int32)) i1 (0 : Int32) ((mx_i (mx_wi h 381 0 ((if (V_191 h i2 (0 : Int32) (3 : Int32)) = 0 then 1 else 0) : Int32)) 382 7) - 1)) = 0 → True) ∧ (¬ (V_191 (mx_wi h 381 0 ((if (V_191 h i2 (0 : Int32) (3 : Int32)) = 0 then 1 else 0) : Int32)) i1 (0 : Int32) ((mx_i (mx_wi h 381 0 ((if (V_191 h i2 (0 : Int32) (3 : Int32)) = 0 then 1 else 0) : Int32)) 382 7) - 1)) = 0 → (vp_in ((129 + (4 * i1)) + i2) 769 ∧ True))) ∧ True))) := x0
  refine tr_298_0 G  ?_
  intro v1 ev1
  subst ev1
  intro h2 eh2
  subst eh2
  refine ⟨fun c9 => ?_, fun c9 => ?_⟩
  · try simp only [if_pos c9] at k
    have hob := hob.1 c9
    exact k
  · try simp only [if_neg c9] at k
    have hob := hob.2 c9
    obtain ⟨q0, hob⟩ := hob
    refine ⟨q0, ?_⟩
    intro v6 ev6
    subst ev6
    exact k
/-! 299: StoneBacksModel.seed(I)I -/
set_option maxRecDepth 8000 in
theorem tr_299_0 {d : Nat} {h : mxH} {Q : mxO → mxH → Prop} {i1 : Int32} (G : mxG h)  (H : (∀ h1, h1 = mx_wi h 381 0 0 → (∀ h4, h4 = mx_wi h1 382 8 i1 → Q (.inl (some (.int (mx_i h1 382 8)))) h4))) : mx_wp d 299 0 (mx_fr 299 [.ref 381, .int i1]) [] h Q := by
  show mx_wp d 299 0 [some (.ref 381), some (.int i1), none] [] h Q
  refine wp_steps (i' := 3) (ls' := [some (.ref 381), some (.int i1), none]) (st' := []) (h' := mx_wi h 381 0 0) (P := ((mxT 381).1 = 11 ∧ mxG h) ∧ True) 3 rfl rfl ⟨⟨(congrArg Prod.fst sT_381), G⟩, trivial⟩ ?_
  obtain ⟨h1, e2⟩ : ∃ z9, z9 = mx_wi h 381 0 0 := ⟨_, rfl⟩
  rw [← e2]
  have H := H h1 e2
  have G3 : mxG h1 := e2 ▸ mxG_wi G
  refine wp_steps (i' := 13) (ls' := [some (.ref 381), some (.int i1), some (.int (mx_i h1 382 8))]) (st' := []) (h' := mx_wi h1 382 8 i1) (P := ((mxT 381).1 = 11 ∧ mxG h1) ∧ (((mxT 382).1 = 50 ∧ mxG h1) ∧ vp_in 8 (mxT 382).2) ∧ ((mxT 381).1 = 11 ∧ mxG h1) ∧ (((mxT 382).1 = 50 ∧ mxG h1) ∧ vp_in 8 (mxT 382).2) ∧ True) 10 rfl rfl ⟨⟨(congrArg Prod.fst sT_381), G3⟩, (cA sT_382 G3 (vpl rfl)), ⟨(congrArg Prod.fst sT_381), G3⟩, (cA sT_382 G3 (vpl rfl)), trivial⟩ ?_
  obtain ⟨h4, e5⟩ : ∃ z9, z9 = mx_wi h1 382 8 i1 := ⟨_, rfl⟩
  rw [← e5]
  have H := H h4 e5
  have G6 : mxG h4 := e5 ▸ mxG_wi G3
  refine wp_steps (i' := 14) (ls' := [some (.ref 381), some (.int i1), some (.int (mx_i h1 382 8))]) (st' := [.int (mx_i h1 382 8)]) (h' := h4) (P := True) 1 rfl rfl trivial ?_
  exact wp_end (o := .inl (some (.int (mx_i h1 382 8)))) (h' := h4) (P := True) rfl rfl trivial H
def V_299 (h : mxH) (i1 : Int32) : Int32 := (mx_i (mx_wi h 381 0 0) 382 8)
def W_299 (h : mxH) (i1 : Int32) : mxH := (mx_wi (mx_wi h 381 0 0) 382 8 i1)
theorem KW_299 {h : mxH} {i1 : Int32} : mxK h (W_299 h i1) := by
  unfold W_299
  repeat' (first | with_reducible exact mxK_rfl | with_reducible exact mxK_wi | with_reducible exact mxK_wrow | with_reducible refine mxK_ite ?_ ?_ | with_reducible refine mxK_tr ?_ mxK_wi | with_reducible refine mxK_tr ?_ mxK_wrow)
theorem sp_299 {d : Nat} {h : mxH} {Q : mxO → mxH → Prop} {i1 : Int32} (G : mxG h)  (k : Q (.inl (some (.int (V_299 h i1)))) (W_299 h i1)) : mx_wp d 299 0 (mx_fr 299 [.ref 381, .int i1]) [] h Q := by
  unfold V_299 W_299 at k
  refine tr_299_0 G  ?_
  intro h1 eh1
  subst eh1
  intro h4 eh4
  subst eh4
  exact k
/-! 300: StoneBacksModel.undo()Z -/
def H_300_16 (d : Nat) (h : mxH) (i1 : Int32) (Q : mxO → mxH → Prop) : Prop := mx_wp d 300 16 [some (.ref 381), some (.int i1)] [] h Q
set_option maxRecDepth 8000 in
theorem tr_300_0 {d : Nat} {h : mxH} {Q : mxO → mxH → Prop}  (G : mxG h)  (H : (∀ h1, h1 = mx_wi h 381 0 0 → (((mx_i h1 381 6) = 0 → Q (.inl (some (.int 0))) h1) ∧ (¬ (mx_i h1 381 6) = 0 → (∀ h5, h5 = mx_wi h1 381 6 ((mx_i h1 381 6) - 1) → H_300_16 d h5 0 Q))))) : mx_wp d 300 0 (mx_fr 300 [.ref 381]) [] h Q := by
  show mx_wp d 300 0 [some (.ref 381), none] [] h Q
  refine wp_steps (i' := 3) (ls' := [some (.ref 381), none]) (st' := []) (h' := mx_wi h 381 0 0) (P := ((mxT 381).1 = 11 ∧ mxG h) ∧ True) 3 rfl rfl ⟨⟨(congrArg Prod.fst sT_381), G⟩, trivial⟩ ?_
  obtain ⟨h1, e2⟩ : ∃ z9, z9 = mx_wi h 381 0 0 := ⟨_, rfl⟩
  rw [← e2]
  have H := H h1 e2
  have G3 : mxG h1 := e2 ▸ mxG_wi G
  refine wp_steps (i' := 5) (ls' := [some (.ref 381), none]) (st' := [.int (mx_i h1 381 6)]) (h' := h1) (P := ((mxT 381).1 = 11 ∧ mxG h1) ∧ True) 2 rfl rfl ⟨⟨(congrArg Prod.fst sT_381), G3⟩, trivial⟩ ?_
  refine wp_br (P := True) (c := ¬ (mx_i h1 381 6) = 0) (t := 8) (st' := []) rfl rfl trivial (fun c4 => ?_) (fun c4 => ?_)
  · skip
    have H := H.2 c4
    refine wp_steps (i' := 14) (ls' := [some (.ref 381), none]) (st' := []) (h' := mx_wi h1 381 6 ((mx_i h1 381 6) - 1)) (P := ((mxT 381).1 = 11 ∧ mxG h1) ∧ ((mxT 381).1 = 11 ∧ mxG h1) ∧ True) 6 rfl rfl ⟨⟨(congrArg Prod.fst sT_381), G3⟩, ⟨(congrArg Prod.fst sT_381), G3⟩, trivial⟩ ?_
    obtain ⟨h5, e6⟩ : ∃ z9, z9 = mx_wi h1 381 6 ((mx_i h1 381 6) - 1) := ⟨_, rfl⟩
    rw [← e6]
    have H := H h5 e6
    have G7 : mxG h5 := e6 ▸ mxG_wi G3
    refine wp_steps (i' := 16) (ls' := [some (.ref 381), some (.int 0)]) (st' := []) (h' := h5) (P := True) 2 rfl rfl trivial ?_
    exact H 
  · have c4 := Decidable.of_not_not c4
    have H := H.1 c4
    refine wp_steps (i' := 7) (ls' := [some (.ref 381), none]) (st' := [.int 0]) (h' := h1) (P := True) 1 rfl rfl trivial ?_
    exact wp_end (o := .inl (some (.int 0))) (h' := h1) (P := ((0 : Int32) = 0 ∨ (0 : Int32) = 1)) rfl rfl (Or.inl rfl) H
set_option maxRecDepth 8000 in
theorem tr_300_16 {d : Nat} {h : mxH} {Q : mxO → mxH → Prop}  {i1 : Int32} (G : mxG h)  (H : ((i1 < 369 → (vp_in ((369 * (mx_i h 381 6)) + i1) 4428 ∧ vp_in i1 769 ∧ (∀ h4, h4 = mx_wi h 382 i1.toNatClampNeg (mx_i h 385 ((369 * (mx_i h 381 6)) + i1).toNatClampNeg) → H_300_16 d h4 (i1 + 1) Q))) ∧ (¬ i1 < 369 → Q (.inl (some (.int 1))) h))) : H_300_16 d h i1 Q := by
  show mx_wp d 300 16 [some (.ref 381), some (.int i1)] [] h Q
  refine wp_steps (i' := 18) (ls' := [some (.ref 381), some (.int i1)]) (st' := [.int 369, .int i1]) (h' := h) (P := True) 2 rfl rfl trivial ?_
  refine wp_br (P := True) (c := 369 ≤ i1) (t := 34) (st' := []) rfl rfl trivial (fun c1 => ?_) (fun c1 => ?_)
  · have c1 := Int32.not_lt.mpr c1
    have H := H.2 c1
    refine wp_steps (i' := 35) (ls' := [some (.ref 381), some (.int i1)]) (st' := [.int 1]) (h' := h) (P := True) 1 rfl rfl trivial ?_
    exact wp_end (o := .inl (some (.int 1))) (h' := h) (P := ((1 : Int32) = 0 ∨ (1 : Int32) = 1)) rfl rfl (Or.inr rfl) H
  · have c1 := Int32.not_le.mp c1
    have H := H.1 c1
    obtain ⟨o2, o3, H⟩ := H
    refine wp_steps (i' := 32) (ls' := [some (.ref 381), some (.int i1)]) (st' := []) (h' := mx_wi h 382 i1.toNatClampNeg (mx_i h 385 ((369 * (mx_i h 381 6)) + i1).toNatClampNeg)) (P := ((mxT 381).1 = 11 ∧ mxG h) ∧ ((mxT 381).1 = 11 ∧ mxG h) ∧ ((mxT 381).1 = 11 ∧ mxG h) ∧ (((mxT 385).1 = 50 ∧ mxG h) ∧ vp_in ((369 * (mx_i h 381 6)) + i1) (mxT 385).2) ∧ (((mxT 382).1 = 50 ∧ mxG h) ∧ vp_in i1 (mxT 382).2) ∧ True) 13 rfl rfl ⟨⟨(congrArg Prod.fst sT_381), G⟩, ⟨(congrArg Prod.fst sT_381), G⟩, ⟨(congrArg Prod.fst sT_381), G⟩, (cA sT_385 G o2), (cA sT_382 G o3), trivial⟩ ?_
    obtain ⟨h4, e5⟩ : ∃ z9, z9 = mx_wi h 382 i1.toNatClampNeg (mx_i h 385 ((369 * (mx_i h 381 6)) + i1).toNatClampNeg) := ⟨_, rfl⟩
    rw [← e5]
    have H := H h4 e5
    have G6 : mxG h4 := e5 ▸ mxG_wi G
    refine wp_steps (i' := 33) (ls' := [some (.ref 381), some (.int (i1 + 1))]) (st' := []) (h' := h4) (P := True) 1 rfl rfl trivial ?_
    refine wp_J (j := 16) (st' := []) rfl rfl ?_
    exact H 
def F_300_16 (z : Nat) (s : mxH) : mxH := (mx_wi s 382 (nI z).toNatClampNeg (mx_i s 385 ((369 * (mx_i s 381 6)) + (nI z)).toNatClampNeg))
theorem K_300_16 (z : Nat) (s : mxH) : mxK s (F_300_16 z s) := by
  unfold F_300_16
  (try simp only []); repeat' (first | with_reducible exact mxK_rfl | with_reducible exact mxK_wi | with_reducible exact mxK_wrow | with_reducible refine mxK_ite ?_ ?_ | with_reducible refine mxK_tr ?_ mxK_wi | with_reducible refine mxK_tr ?_ mxK_wrow)
theorem lp_300_16 {d : Nat} {Q : mxO → mxH → Prop} {s0 : mxH} {n : Nat} (z0 : Nat) (G : mxG s0)  (hB : ∀ z, z0 ≤ z → z ≤ n → (369 : Int32) = nI n) (hn : n < 2147483648) (hz : z0 ≤ n) (ob : ∀ z, z0 ≤ z → z < n → (vp_in ((369 * (mx_i (fz F_300_16 z0 z s0) 381 6)) + (nI z)) 4428 ∧ vp_in (nI z) 769 ∧ True)) (k : Q (.inl (some (.int 1))) (fz F_300_16 z0 n s0)) : H_300_16 d s0 (nI z0) Q := by
  have L : ∀ (j z : Nat), z0 ≤ z → z + j = n → H_300_16 d (fz F_300_16 z0 z s0) (nI z) Q := by
    intro j
    induction j with
    | zero =>
      intro z hz0 hzn
      have hzn : z = n := by omega
      subst hzn
      have Gz : mxG (fz F_300_16 z0 z s0) := mxK_G (mxK_fz (g := fun s => s) (fun z s => K_300_16 z s) z0 z s0) G
      have hBz := hB z hz0 (by omega)
      refine tr_300_16 Gz  ⟨fun c9 => absurd (hBz ▸ c9) Int32.lt_irrefl, fun c9 => k⟩
    | succ j ih =>
      intro z hz0 hzn
      have hih := ih (z + 1) (by omega) (by omega)
      rw [nI_succ, fz_s hz0] at hih
      have Gz : mxG (fz F_300_16 z0 z s0) := mxK_G (mxK_fz (g := fun s => s) (fun z s => K_300_16 z s) z0 z s0) G
      have hBz := hB z hz0 (by omega)
      have hob := ob z hz0 (by omega)
      refine tr_300_16 Gz  ⟨fun c9 => ?_, fun c9 => absurd (hBz.symm ▸ nI_lt (by omega) hn) c9⟩
      obtain ⟨q0, q1, hob⟩ := hob
      refine ⟨q0, q1, ?_⟩
      intro h4 eh4
      subst eh4
      exact hih
  have L0 := L (n - z0) z0 (Nat.le_refl _) (by omega)
  simp only [fz_0] at L0
  exact L0
/-! 301: StoneBacksModel.image()V -/
def H_301_5 (d : Nat) (h : mxH) (i1 : Int32) (Q : mxO → mxH → Prop) : Prop := mx_wp d 301 5 [some (.ref 381), some (.int i1)] [] h Q
set_option maxRecDepth 8000 in
theorem tr_301_0 {d : Nat} {h : mxH} {Q : mxO → mxH → Prop}  (G : mxG h)  (H : (∀ h1, h1 = mx_wi h 381 0 0 → H_301_5 d h1 0 Q)) : mx_wp d 301 0 (mx_fr 301 [.ref 381]) [] h Q := by
  show mx_wp d 301 0 [some (.ref 381), none] [] h Q
  refine wp_steps (i' := 3) (ls' := [some (.ref 381), none]) (st' := []) (h' := mx_wi h 381 0 0) (P := ((mxT 381).1 = 11 ∧ mxG h) ∧ True) 3 rfl rfl ⟨⟨(congrArg Prod.fst sT_381), G⟩, trivial⟩ ?_
  obtain ⟨h1, e2⟩ : ∃ z9, z9 = mx_wi h 381 0 0 := ⟨_, rfl⟩
  rw [← e2]
  have H := H h1 e2
  have G3 : mxG h1 := e2 ▸ mxG_wi G
  refine wp_steps (i' := 5) (ls' := [some (.ref 381), some (.int 0)]) (st' := []) (h' := h1) (P := True) 2 rfl rfl trivial ?_
  exact H 
set_option maxRecDepth 8000 in
theorem tr_301_5 {d : Nat} {h : mxH} {Q : mxO → mxH → Prop}  {i1 : Int32} (G : mxG h)  (H : ((i1 < 769 → (vp_in i1 769 ∧ (∀ h6, h6 = mx_wi h 383 i1.toNatClampNeg (mx_i h 382 i1.toNatClampNeg) → H_301_5 d h6 (i1 + 1) Q))) ∧ (¬ i1 < 769 → (∀ h2, h2 = mx_wi h 381 3 1 → Q (.inl none) h2)))) : H_301_5 d h i1 Q := by
  show mx_wp d 301 5 [some (.ref 381), some (.int i1)] [] h Q
  refine wp_steps (i' := 7) (ls' := [some (.ref 381), some (.int i1)]) (st' := [.int 769, .int i1]) (h' := h) (P := True) 2 rfl rfl trivial ?_
  refine wp_br (P := True) (c := 769 ≤ i1) (t := 18) (st' := []) rfl rfl trivial (fun c1 => ?_) (fun c1 => ?_)
  · have c1 := Int32.not_lt.mpr c1
    have H := H.2 c1
    refine wp_steps (i' := 21) (ls' := [some (.ref 381), some (.int i1)]) (st' := []) (h' := mx_wi h 381 3 1) (P := (((mxT 381).1 = 11 ∧ mxG h) ∧ ((1 : Int32) = 0 ∨ (1 : Int32) = 1)) ∧ True) 3 rfl rfl ⟨⟨⟨(congrArg Prod.fst sT_381), G⟩, Or.inr rfl⟩, trivial⟩ ?_
    obtain ⟨h2, e3⟩ : ∃ z9, z9 = mx_wi h 381 3 1 := ⟨_, rfl⟩
    rw [← e3]
    have H := H h2 e3
    have G4 : mxG h2 := e3 ▸ mxG_wi G
    exact wp_end (o := .inl none) (h' := h2) (P := True) rfl rfl trivial H
  · have c1 := Int32.not_le.mp c1
    have H := H.1 c1
    obtain ⟨o5, H⟩ := H
    refine wp_steps (i' := 16) (ls' := [some (.ref 381), some (.int i1)]) (st' := []) (h' := mx_wi h 383 i1.toNatClampNeg (mx_i h 382 i1.toNatClampNeg)) (P := ((mxT 381).1 = 11 ∧ mxG h) ∧ ((mxT 381).1 = 11 ∧ mxG h) ∧ (((mxT 382).1 = 50 ∧ mxG h) ∧ vp_in i1 (mxT 382).2) ∧ (((mxT 383).1 = 50 ∧ mxG h) ∧ vp_in i1 (mxT 383).2) ∧ True) 8 rfl rfl ⟨⟨(congrArg Prod.fst sT_381), G⟩, ⟨(congrArg Prod.fst sT_381), G⟩, (cA sT_382 G o5), (cA sT_383 G o5), trivial⟩ ?_
    obtain ⟨h6, e7⟩ : ∃ z9, z9 = mx_wi h 383 i1.toNatClampNeg (mx_i h 382 i1.toNatClampNeg) := ⟨_, rfl⟩
    rw [← e7]
    have H := H h6 e7
    have G8 : mxG h6 := e7 ▸ mxG_wi G
    refine wp_steps (i' := 17) (ls' := [some (.ref 381), some (.int (i1 + 1))]) (st' := []) (h' := h6) (P := True) 1 rfl rfl trivial ?_
    refine wp_J (j := 5) (st' := []) rfl rfl ?_
    exact H 
def F_301_5 (z : Nat) (s : mxH) : mxH := (mx_wi s 383 (nI z).toNatClampNeg (mx_i s 382 (nI z).toNatClampNeg))
theorem K_301_5 (z : Nat) (s : mxH) : mxK s (F_301_5 z s) := by
  unfold F_301_5
  (try simp only []); repeat' (first | with_reducible exact mxK_rfl | with_reducible exact mxK_wi | with_reducible exact mxK_wrow | with_reducible refine mxK_ite ?_ ?_ | with_reducible refine mxK_tr ?_ mxK_wi | with_reducible refine mxK_tr ?_ mxK_wrow)
theorem lp_301_5 {d : Nat} {Q : mxO → mxH → Prop} {s0 : mxH} {n : Nat} (z0 : Nat) (G : mxG s0)  (hB : ∀ z, z0 ≤ z → z ≤ n → (769 : Int32) = nI n) (hn : n < 2147483648) (hz : z0 ≤ n) (ob : ∀ z, z0 ≤ z → z < n → (vp_in (nI z) 769 ∧ True)) (k : (∀ h2, h2 = mx_wi (fz F_301_5 z0 n s0) 381 3 1 → Q (.inl none) h2)) : H_301_5 d s0 (nI z0) Q := by
  have L : ∀ (j z : Nat), z0 ≤ z → z + j = n → H_301_5 d (fz F_301_5 z0 z s0) (nI z) Q := by
    intro j
    induction j with
    | zero =>
      intro z hz0 hzn
      have hzn : z = n := by omega
      subst hzn
      have Gz : mxG (fz F_301_5 z0 z s0) := mxK_G (mxK_fz (g := fun s => s) (fun z s => K_301_5 z s) z0 z s0) G
      have hBz := hB z hz0 (by omega)
      refine tr_301_5 Gz  ⟨fun c9 => absurd (hBz ▸ c9) Int32.lt_irrefl, fun c9 => k⟩
    | succ j ih =>
      intro z hz0 hzn
      have hih := ih (z + 1) (by omega) (by omega)
      rw [nI_succ, fz_s hz0] at hih
      have Gz : mxG (fz F_301_5 z0 z s0) := mxK_G (mxK_fz (g := fun s => s) (fun z s => K_301_5 z s) z0 z s0) G
      have hBz := hB z hz0 (by omega)
      have hob := ob z hz0 (by omega)
      refine tr_301_5 Gz  ⟨fun c9 => ?_, fun c9 => absurd (hBz.symm ▸ nI_lt (by omega) hn) c9⟩
      obtain ⟨q0, hob⟩ := hob
      refine ⟨q0, ?_⟩
      intro h6 eh6
      subst eh6
      exact hih
  have L0 := L (n - z0) z0 (Nat.le_refl _) (by omega)
  simp only [fz_0] at L0
  exact L0
/-! 302: StoneBacksModel.back()Z -/
def H_302_10 (d : Nat) (h : mxH) (i1 : Int32) (Q : mxO → mxH → Prop) : Prop := mx_wp d 302 10 [some (.ref 381), some (.int i1)] [] h Q
set_option maxRecDepth 8000 in
theorem tr_302_0 {d : Nat} {h : mxH} {Q : mxO → mxH → Prop}  (G : mxG h)  (H : (∀ h1, h1 = mx_wi h 381 0 0 → (((mx_i h1 381 3) = 0 → Q (.inl (some (.int 0))) h1) ∧ (¬ (mx_i h1 381 3) = 0 → H_302_10 d h1 0 Q)))) : mx_wp d 302 0 (mx_fr 302 [.ref 381]) [] h Q := by
  show mx_wp d 302 0 [some (.ref 381), none] [] h Q
  refine wp_steps (i' := 3) (ls' := [some (.ref 381), none]) (st' := []) (h' := mx_wi h 381 0 0) (P := ((mxT 381).1 = 11 ∧ mxG h) ∧ True) 3 rfl rfl ⟨⟨(congrArg Prod.fst sT_381), G⟩, trivial⟩ ?_
  obtain ⟨h1, e2⟩ : ∃ z9, z9 = mx_wi h 381 0 0 := ⟨_, rfl⟩
  rw [← e2]
  have H := H h1 e2
  have G3 : mxG h1 := e2 ▸ mxG_wi G
  refine wp_steps (i' := 5) (ls' := [some (.ref 381), none]) (st' := [.int (mx_i h1 381 3)]) (h' := h1) (P := ((mxT 381).1 = 11 ∧ mxG h1) ∧ True) 2 rfl rfl ⟨⟨(congrArg Prod.fst sT_381), G3⟩, trivial⟩ ?_
  refine wp_br (P := True) (c := ¬ (mx_i h1 381 3) = 0) (t := 8) (st' := []) rfl rfl trivial (fun c4 => ?_) (fun c4 => ?_)
  · skip
    have H := H.2 c4
    refine wp_steps (i' := 10) (ls' := [some (.ref 381), some (.int 0)]) (st' := []) (h' := h1) (P := True) 2 rfl rfl trivial ?_
    exact H 
  · have c4 := Decidable.of_not_not c4
    have H := H.1 c4
    refine wp_steps (i' := 7) (ls' := [some (.ref 381), none]) (st' := [.int 0]) (h' := h1) (P := True) 1 rfl rfl trivial ?_
    exact wp_end (o := .inl (some (.int 0))) (h' := h1) (P := ((0 : Int32) = 0 ∨ (0 : Int32) = 1)) rfl rfl (Or.inl rfl) H
set_option maxRecDepth 8000 in
theorem tr_302_10 {d : Nat} {h : mxH} {Q : mxO → mxH → Prop}  {i1 : Int32} (G : mxG h)  (H : ((i1 < 769 → (vp_in i1 769 ∧ (∀ h6, h6 = mx_wi h 382 i1.toNatClampNeg (mx_i h 383 i1.toNatClampNeg) → H_302_10 d h6 (i1 + 1) Q))) ∧ (¬ i1 < 769 → (∀ h2, h2 = mx_wi h 381 6 0 → Q (.inl (some (.int 1))) h2)))) : H_302_10 d h i1 Q := by
  show mx_wp d 302 10 [some (.ref 381), some (.int i1)] [] h Q
  refine wp_steps (i' := 12) (ls' := [some (.ref 381), some (.int i1)]) (st' := [.int 769, .int i1]) (h' := h) (P := True) 2 rfl rfl trivial ?_
  refine wp_br (P := True) (c := 769 ≤ i1) (t := 23) (st' := []) rfl rfl trivial (fun c1 => ?_) (fun c1 => ?_)
  · have c1 := Int32.not_lt.mpr c1
    have H := H.2 c1
    refine wp_steps (i' := 26) (ls' := [some (.ref 381), some (.int i1)]) (st' := []) (h' := mx_wi h 381 6 0) (P := ((mxT 381).1 = 11 ∧ mxG h) ∧ True) 3 rfl rfl ⟨⟨(congrArg Prod.fst sT_381), G⟩, trivial⟩ ?_
    obtain ⟨h2, e3⟩ : ∃ z9, z9 = mx_wi h 381 6 0 := ⟨_, rfl⟩
    rw [← e3]
    have H := H h2 e3
    have G4 : mxG h2 := e3 ▸ mxG_wi G
    refine wp_steps (i' := 27) (ls' := [some (.ref 381), some (.int i1)]) (st' := [.int 1]) (h' := h2) (P := True) 1 rfl rfl trivial ?_
    exact wp_end (o := .inl (some (.int 1))) (h' := h2) (P := ((1 : Int32) = 0 ∨ (1 : Int32) = 1)) rfl rfl (Or.inr rfl) H
  · have c1 := Int32.not_le.mp c1
    have H := H.1 c1
    obtain ⟨o5, H⟩ := H
    refine wp_steps (i' := 21) (ls' := [some (.ref 381), some (.int i1)]) (st' := []) (h' := mx_wi h 382 i1.toNatClampNeg (mx_i h 383 i1.toNatClampNeg)) (P := ((mxT 381).1 = 11 ∧ mxG h) ∧ ((mxT 381).1 = 11 ∧ mxG h) ∧ (((mxT 383).1 = 50 ∧ mxG h) ∧ vp_in i1 (mxT 383).2) ∧ (((mxT 382).1 = 50 ∧ mxG h) ∧ vp_in i1 (mxT 382).2) ∧ True) 8 rfl rfl ⟨⟨(congrArg Prod.fst sT_381), G⟩, ⟨(congrArg Prod.fst sT_381), G⟩, (cA sT_383 G o5), (cA sT_382 G o5), trivial⟩ ?_
    obtain ⟨h6, e7⟩ : ∃ z9, z9 = mx_wi h 382 i1.toNatClampNeg (mx_i h 383 i1.toNatClampNeg) := ⟨_, rfl⟩
    rw [← e7]
    have H := H h6 e7
    have G8 : mxG h6 := e7 ▸ mxG_wi G
    refine wp_steps (i' := 22) (ls' := [some (.ref 381), some (.int (i1 + 1))]) (st' := []) (h' := h6) (P := True) 1 rfl rfl trivial ?_
    refine wp_J (j := 10) (st' := []) rfl rfl ?_
    exact H 
def F_302_10 (z : Nat) (s : mxH) : mxH := (mx_wi s 382 (nI z).toNatClampNeg (mx_i s 383 (nI z).toNatClampNeg))
theorem K_302_10 (z : Nat) (s : mxH) : mxK s (F_302_10 z s) := by
  unfold F_302_10
  (try simp only []); repeat' (first | with_reducible exact mxK_rfl | with_reducible exact mxK_wi | with_reducible exact mxK_wrow | with_reducible refine mxK_ite ?_ ?_ | with_reducible refine mxK_tr ?_ mxK_wi | with_reducible refine mxK_tr ?_ mxK_wrow)
theorem lp_302_10 {d : Nat} {Q : mxO → mxH → Prop} {s0 : mxH} {n : Nat} (z0 : Nat) (G : mxG s0)  (hB : ∀ z, z0 ≤ z → z ≤ n → (769 : Int32) = nI n) (hn : n < 2147483648) (hz : z0 ≤ n) (ob : ∀ z, z0 ≤ z → z < n → (vp_in (nI z) 769 ∧ True)) (k : (∀ h2, h2 = mx_wi (fz F_302_10 z0 n s0) 381 6 0 → Q (.inl (some (.int 1))) h2)) : H_302_10 d s0 (nI z0) Q := by
  have L : ∀ (j z : Nat), z0 ≤ z → z + j = n → H_302_10 d (fz F_302_10 z0 z s0) (nI z) Q := by
    intro j
    induction j with
    | zero =>
      intro z hz0 hzn
      have hzn : z = n := by omega
      subst hzn
      have Gz : mxG (fz F_302_10 z0 z s0) := mxK_G (mxK_fz (g := fun s => s) (fun z s => K_302_10 z s) z0 z s0) G
      have hBz := hB z hz0 (by omega)
      refine tr_302_10 Gz  ⟨fun c9 => absurd (hBz ▸ c9) Int32.lt_irrefl, fun c9 => k⟩
    | succ j ih =>
      intro z hz0 hzn
      have hih := ih (z + 1) (by omega) (by omega)
      rw [nI_succ, fz_s hz0] at hih
      have Gz : mxG (fz F_302_10 z0 z s0) := mxK_G (mxK_fz (g := fun s => s) (fun z s => K_302_10 z s) z0 z s0) G
      have hBz := hB z hz0 (by omega)
      have hob := ob z hz0 (by omega)
      refine tr_302_10 Gz  ⟨fun c9 => ?_, fun c9 => absurd (hBz.symm ▸ nI_lt (by omega) hn) c9⟩
      obtain ⟨q0, hob⟩ := hob
      refine ⟨q0, ?_⟩
      intro h6 eh6
      subst eh6
      exact hih
  have L0 := L (n - z0) z0 (Nat.le_refl _) (by omega)
  simp only [fz_0] at L0
  exact L0
/-! 303: StoneBacksModel.stonesOf(I)I -/
def H_303_4 (d : Nat) (h : mxH) (i1 : Int32) (i2 : Int32) (i3 : Int32) (Q : mxO → mxH → Prop) : Prop := mx_wp d 303 4 [some (.ref 381), some (.int i1), some (.int i2), some (.int i3)] [] h Q
set_option maxRecDepth 8000 in
theorem tr_303_0 {d : Nat} {h : mxH} {Q : mxO → mxH → Prop} {i1 : Int32} (G : mxG h)  (H : H_303_4 (d + 1) h i1 0 0 Q) : mx_wp (d + 1) 303 0 (mx_fr 303 [.ref 381, .int i1]) [] h Q := by
  show mx_wp (d + 1) 303 0 [some (.ref 381), some (.int i1), none, none] [] h Q
  refine wp_steps (i' := 4) (ls' := [some (.ref 381), some (.int i1), some (.int 0), some (.int 0)]) (st' := []) (h' := h) (P := True) 4 rfl rfl trivial ?_
  exact H 
set_option maxRecDepth 8000 in
theorem tr_303_4 {d : Nat} {h : mxH} {Q : mxO → mxH → Prop}  {i1 : Int32} {i2 : Int32} {i3 : Int32} (G : mxG h)  (H : ((i3 < (mx_i h 382 4) → (vp_in ((69 + (6 * i3)) + (3 : Int32)) 769 ∧ (∀ (v3 : Int32), v3 = (if (V_198 h i3 (3 : Int32)) = i1 then (1 <<< (i3 &&& 31)) else 0) → H_303_4 (d + 1) h i1 (i2 ||| v3) (i3 + 1) Q))) ∧ (¬ i3 < (mx_i h 382 4) → Q (.inl (some (.int i2))) h))) : H_303_4 (d + 1) h i1 i2 i3 Q := by
  show mx_wp (d + 1) 303 4 [some (.ref 381), some (.int i1), some (.int i2), some (.int i3)] [] h Q
  refine wp_steps (i' := 9) (ls' := [some (.ref 381), some (.int i1), some (.int i2), some (.int i3)]) (st' := [.int (mx_i h 382 4), .int i3]) (h' := h) (P := ((mxT 381).1 = 11 ∧ mxG h) ∧ (((mxT 382).1 = 50 ∧ mxG h) ∧ vp_in 4 (mxT 382).2) ∧ True) 5 rfl rfl ⟨⟨(congrArg Prod.fst sT_381), G⟩, (cA sT_382 G (vpl rfl)), trivial⟩ ?_
  refine wp_br (P := True) (c := (mx_i h 382 4) ≤ i3) (t := 26) (st' := []) rfl rfl trivial (fun c1 => ?_) (fun c1 => ?_)
  · have c1 := Int32.not_lt.mpr c1
    have H := H.2 c1
    refine wp_steps (i' := 27) (ls' := [some (.ref 381), some (.int i1), some (.int i2), some (.int i3)]) (st' := [.int i2]) (h' := h) (P := True) 1 rfl rfl trivial ?_
    exact wp_end (o := .inl (some (.int i2))) (h' := h) (P := True) rfl rfl trivial H
  · have c1 := Int32.not_le.mp c1
    have H := H.1 c1
    refine wp_steps (i' := 14) (ls' := [some (.ref 381), some (.int i1), some (.int i2), some (.int i3)]) (st' := [.int 3, .int i3, .ref 381, .int i2]) (h' := h) (P := True) 4 rfl rfl trivial ?_
    obtain ⟨o2, H⟩ := H
    refine wp_call (b := false) (y' := 198) (as := [.ref 381, .int i3, .int 3]) (rest := [.int i2]) (P := ((mxT 381).1 = mxRc 198 ∧ mxG h)) rfl (by with_unfolding_all rfl) ⟨(congrArg Prod.fst sT_381), G⟩ (Nat.le_of_ble_eq_true rfl) (sp_198 G o2 ?_)
    show mx_wp (d + 1) 303 15 [some (.ref 381), some (.int i1), some (.int i2), some (.int i3)] [.int (V_198 h i3 (3 : Int32)), .int i2] h Q
    refine wp_steps (i' := 16) (ls' := [some (.ref 381), some (.int i1), some (.int i2), some (.int i3)]) (st' := [.int i1, .int (V_198 h i3 (3 : Int32)), .int i2]) (h' := h) (P := True) 1 rfl rfl trivial ?_
    have J : ∀ (v3 : Int32) (ev3 : v3 = (if (V_198 h i3 (3 : Int32)) = i1 then (1 <<< (i3 &&& 31)) else 0)), mx_wp (d + 1) 303 22 [some (.ref 381), some (.int i1), some (.int i2), some (.int i3)] [.int v3, .int i2] h Q := by
      intro v3 ev3
      have H := H v3 ev3
      refine wp_steps (i' := 25) (ls' := [some (.ref 381), some (.int i1), some (.int (i2 ||| v3)), some (.int (i3 + 1))]) (st' := []) (h' := h) (P := True) 3 rfl rfl trivial ?_
      refine wp_J (j := 4) (st' := []) rfl rfl ?_
      exact H 
    refine wp_br (P := True) (c := ¬ (V_198 h i3 (3 : Int32)) = i1) (t := 21) (st' := [.int i2]) rfl rfl trivial (fun c4 => ?_) (fun c4 => ?_)
    · skip
      refine wp_steps (i' := 22) (ls' := [some (.ref 381), some (.int i1), some (.int i2), some (.int i3)]) (st' := [.int 0, .int i2]) (h' := h) (P := True) 1 rfl rfl trivial ?_
      exact J _ (by rw [if_neg c4])
    · have c4 := Decidable.of_not_not c4
      refine wp_steps (i' := 20) (ls' := [some (.ref 381), some (.int i1), some (.int i2), some (.int i3)]) (st' := [.int (1 <<< (i3 &&& 31)), .int i2]) (h' := h) (P := True) 3 rfl rfl trivial ?_
      refine wp_J (j := 22) (st' := [.int (1 <<< (i3 &&& 31)), .int i2]) rfl rfl ?_
      exact J _ (by rw [if_pos c4])
def F_303_4 (h : mxH) (i1 : Int32) (z : Nat) (s : Int32) : Int32 := (s ||| ((if (V_198 h (nI z) (3 : Int32)) = i1 then (1 <<< ((nI z) &&& 31)) else 0) : Int32))
theorem lp_303_4 {d : Nat} {h : mxH} {Q : mxO → mxH → Prop} {i1 : Int32} {s0 : Int32} {n : Nat} (z0 : Nat) (G : mxG h)  (hB : (mx_i h 382 4) = nI n) (hn : n < 2147483648) (hz : z0 ≤ n) (ob : ∀ z, z0 ≤ z → z < n → (vp_in ((69 + (6 * (nI z))) + (3 : Int32)) 769 ∧ True)) (k : Q (.inl (some (.int (fz (F_303_4 h i1) z0 n s0)))) h) : H_303_4 (d + 1) h i1 s0 (nI z0) Q := by
  have L : ∀ (j z : Nat), z0 ≤ z → z + j = n → H_303_4 (d + 1) h i1 (fz (F_303_4 h i1) z0 z s0) (nI z) Q := by
    intro j
    induction j with
    | zero =>
      intro z hz0 hzn
      have hzn : z = n := by omega
      subst hzn
      refine tr_303_4 G  ⟨fun c9 => absurd (hB ▸ c9) Int32.lt_irrefl, fun c9 => k⟩
    | succ j ih =>
      intro z hz0 hzn
      have hih := ih (z + 1) (by omega) (by omega)
      rw [nI_succ, fz_s hz0] at hih
      have hob := ob z hz0 (by omega)
      refine tr_303_4 G  ⟨fun c9 => ?_, fun c9 => absurd (hB.symm ▸ nI_lt (by omega) hn) c9⟩
      obtain ⟨q0, hob⟩ := hob
      refine ⟨q0, ?_⟩
      intro v3 ev3
      subst ev3
      exact hih
  have L0 := L (n - z0) z0 (Nat.le_refl _) (by omega)
  simp only [fz_0] at L0
  exact L0
