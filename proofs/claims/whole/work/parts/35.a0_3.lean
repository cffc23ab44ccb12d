/-! 202: StoneBacksModel.isPlace(I)Z -/
set_option maxRecDepth 8000 in
theorem tr_202_0 {d : Nat} {h : mxH} {Q : mxO → mxH → Prop} {i0 : Int32} (G : mxG h)  (H : (((V_191 (mx_i h 382) i0 (0 : Int32) (11 : Int32)) = 0 ∨ (V_191 (mx_i h 382) i0 (0 : Int32) (11 : Int32)) = 1) ∧ Q (.inl (some (.int (V_191 (mx_i h 382) i0 (0 : Int32) (11 : Int32))))) h)) : mx_wp (d + 1) 202 0 (mx_fr 202 [.int i0]) [] h Q := by
  show mx_wp (d + 1) 202 0 [some (.int i0)] [] h Q
  refine wp_steps (i' := 3) (ls' := [some (.int i0)]) (st' := [.int 11, .int 0, .int i0]) (h' := h) (P := True) 3 rfl rfl trivial ?_
  refine wp_call (b := false) (y' := 191) (as := [.int i0, .int 0, .int 11]) (rest := []) (P := True) rfl (by with_unfolding_all rfl) trivial (Nat.le_of_ble_eq_true rfl) (sp_191 G ?_)
  show mx_wp (d + 1) 202 4 [some (.int i0)] [.int (V_191 (mx_i h 382) i0 (0 : Int32) (11 : Int32))] h Q
  obtain ⟨o1, H⟩ := H
  exact wp_end (o := .inl (some (.int (V_191 (mx_i h 382) i0 (0 : Int32) (11 : Int32))))) (h' := h) (P := ((V_191 (mx_i h 382) i0 (0 : Int32) (11 : Int32)) = 0 ∨ (V_191 (mx_i h 382) i0 (0 : Int32) (11 : Int32)) = 1)) rfl rfl o1 H
def V_202 (r : Nat → Int32) (i0 : Int32) : Int32 := (V_191 (r) i0 (0 : Int32) (11 : Int32))
theorem sp_202 {d : Nat} {h : mxH} {Q : mxO → mxH → Prop} {i0 : Int32} (G : mxG h)  (x0 : ((V_191 (mx_i h 382) i0 (0 : Int32) (11 : Int32)) = 0 ∨ (V_191 (mx_i h 382) i0 (0 : Int32) (11 : Int32)) = 1)) (k : Q (.inl (some (.int (V_202 (mx_i h 382) i0)))) h) : mx_wp (d + 1) 202 0 (mx_fr 202 [.int i0]) [] h Q := by
  unfold V_202 at k
  have hob : (((V_191 (mx_i h 382) i0 (0 : Int32) (11 : Int32)) = 0 ∨ (V_191 (mx_i h 382) i0 (0 : Int32) (11 : Int32)) = 1) ∧ True) := ⟨x0, trivial⟩
  refine tr_202_0 G  ?_
  obtain ⟨q0, hob⟩ := hob
  refine ⟨q0, ?_⟩
  exact k
/-! 203: StoneBacksModel.worn(I)I -/
def H_203_4 (d : Nat) (h : mxH) (i1 : Int32) (i2 : Int32) (i3 : Int32) (Q : mxO → mxH → Prop) : Prop := mx_wp d 203 4 [some (.ref 381), some (.int i1), some (.int i2), some (.int i3)] [] h Q
set_option maxRecDepth 8000 in
theorem tr_203_0 {d : Nat} {h : mxH} {Q : mxO → mxH → Prop} {i1 : Int32} (G : mxG h)  (H : H_203_4 (d + 1) h i1 0 0 Q) : mx_wp (d + 1) 203 0 (mx_fr 203 [.ref 381, .int i1]) [] h Q := by
  show mx_wp (d + 1) 203 0 [some (.ref 381), some (.int i1), none, none] [] h Q
  refine wp_steps (i' := 4) (ls' := [some (.ref 381), some (.int i1), some (.int 0), some (.int 0)]) (st' := []) (h' := h) (P := True) 4 rfl rfl trivial ?_
  exact H 
set_option maxRecDepth 8000 in
theorem tr_203_4 {d : Nat} {h : mxH} {Q : mxO → mxH → Prop}  {i1 : Int32} {i2 : Int32} {i3 : Int32} (G : mxG h)  (H : ((i3 < (mx_i h 382 4) → (vp_in ((69 + (6 * i3)) + (3 : Int32)) 769 ∧ ((((V_198 (mx_i h 382) i3 (3 : Int32)) = 0 → (vp_in ((69 + (6 * i3)) + (4 : Int32)) 769 ∧ True)) ∧ (¬ (V_198 (mx_i h 382) i3 (3 : Int32)) = 0 → True)) ∧ (∀ (v3 : Int32), v3 = ((if (V_198 (mx_i h 382) i3 (3 : Int32)) = 0 then (if (V_198 (mx_i h 382) i3 (4 : Int32)) = i1 then ((1 : Int32) <<< (i3 &&& 31)) else 0) else 0) : Int32) → H_203_4 (d + 1) h i1 (i2 ||| v3) (i3 + 1) Q)))) ∧ (¬ i3 < (mx_i h 382 4) → Q (.inl (some (.int i2))) h))) : H_203_4 (d + 1) h i1 i2 i3 Q := by
  show mx_wp (d + 1) 203 4 [some (.ref 381), some (.int i1), some (.int i2), some (.int i3)] [] h Q
  refine wp_steps (i' := 9) (ls' := [some (.ref 381), some (.int i1), some (.int i2), some (.int i3)]) (st' := [.int (mx_i h 382 4), .int i3]) (h' := h) (P := ((mxT 381).1 = 11 ∧ mxG h) ∧ (((mxT 382).1 = 50 ∧ mxG h) ∧ vp_in 4 (mxT 382).2) ∧ True) 5 rfl rfl ⟨⟨(congrArg Prod.fst sT_381), G⟩, (cA sT_382 G (vpl rfl)), trivial⟩ ?_
  refine wp_br (P := True) (c := (mx_i h 382 4) ≤ i3) (t := 31) (st' := []) rfl rfl trivial (fun c1 => ?_) (fun c1 => ?_)
  · have c1 := Int32.not_lt.mpr c1
    have H := H.2 c1
    refine wp_steps (i' := 32) (ls' := [some (.ref 381), some (.int i1), some (.int i2), some (.int i3)]) (st' := [.int i2]) (h' := h) (P := True) 1 rfl rfl trivial ?_
    exact wp_end (o := .inl (some (.int i2))) (h' := h) (P := True) rfl rfl trivial H
  · have c1 := Int32.not_le.mp c1
    have H := H.1 c1
    refine wp_steps (i' := 14) (ls' := [some (.ref 381), some (.int i1), some (.int i2), some (.int i3)]) (st' := [.int 3, .int i3, .ref 381, .int i2]) (h' := h) (P := True) 4 rfl rfl trivial ?_
    obtain ⟨o2, H⟩ := H
    refine wp_call (b := false) (y' := 198) (as := [.ref 381, .int i3, .int 3]) (rest := [.int i2]) (P := ((mxT 381).1 = mxRc 198 ∧ mxG h)) rfl (by with_unfolding_all rfl) ⟨(congrArg Prod.fst sT_381), G⟩ (Nat.le_of_ble_eq_true rfl) (sp_198 G o2 ?_)
    show mx_wp (d + 1) 203 15 [some (.ref 381), some (.int i1), some (.int i2), some (.int i3)] [.int (V_198 (mx_i h 382) i3 (3 : Int32)), .int i2] h Q
    have J : ∀ (v3 : Int32) (ev3 : v3 = ((if (V_198 (mx_i h 382) i3 (3 : Int32)) = 0 then (if (V_198 (mx_i h 382) i3 (4 : Int32)) = i1 then ((1 : Int32) <<< (i3 &&& 31)) else 0) else 0) : Int32)), mx_wp (d + 1) 203 27 [some (.ref 381), some (.int i1), some (.int i2), some (.int i3)] [.int v3, .int i2] h Q := by
      intro v3 ev3
      have H := H.2 v3 ev3
      refine wp_steps (i' := 30) (ls' := [some (.ref 381), some (.int i1), some (.int (i2 ||| v3)), some (.int (i3 + 1))]) (st' := []) (h' := h) (P := True) 3 rfl rfl trivial ?_
      refine wp_J (j := 4) (st' := []) rfl rfl ?_
      exact H 
    have H := H.1
    refine wp_br (P := True) (c := ¬ (V_198 (mx_i h 382) i3 (3 : Int32)) = 0) (t := 26) (st' := [.int i2]) rfl rfl trivial (fun c4 => ?_) (fun c4 => ?_)
    · skip
      refine wp_steps (i' := 27) (ls' := [some (.ref 381), some (.int i1), some (.int i2), some (.int i3)]) (st' := [.int 0, .int i2]) (h' := h) (P := True) 1 rfl rfl trivial ?_
      exact J _ (by rw [if_neg c4])
    · have c4 := Decidable.of_not_not c4
      have H := H.1 c4
      refine wp_steps (i' := 19) (ls' := [some (.ref 381), some (.int i1), some (.int i2), some (.int i3)]) (st' := [.int 4, .int i3, .ref 381, .int i2]) (h' := h) (P := True) 3 rfl rfl trivial ?_
      obtain ⟨o5, H⟩ := H
      refine wp_call (b := false) (y' := 198) (as := [.ref 381, .int i3, .int 4]) (rest := [.int i2]) (P := ((mxT 381).1 = mxRc 198 ∧ mxG h)) rfl (by with_unfolding_all rfl) ⟨(congrArg Prod.fst sT_381), G⟩ (Nat.le_of_ble_eq_true rfl) (sp_198 G o5 ?_)
      show mx_wp (d + 1) 203 20 [some (.ref 381), some (.int i1), some (.int i2), some (.int i3)] [.int (V_198 (mx_i h 382) i3 (4 : Int32)), .int i2] h Q
      refine wp_steps (i' := 21) (ls' := [some (.ref 381), some (.int i1), some (.int i2), some (.int i3)]) (st' := [.int i1, .int (V_198 (mx_i h 382) i3 (4 : Int32)), .int i2]) (h' := h) (P := True) 1 rfl rfl trivial ?_
      refine wp_br (P := True) (c := ¬ (V_198 (mx_i h 382) i3 (4 : Int32)) = i1) (t := 26) (st' := [.int i2]) rfl rfl trivial (fun c6 => ?_) (fun c6 => ?_)
      · skip
        refine wp_steps (i' := 27) (ls' := [some (.ref 381), some (.int i1), some (.int i2), some (.int i3)]) (st' := [.int 0, .int i2]) (h' := h) (P := True) 1 rfl rfl trivial ?_
        exact J _ (by rw [if_pos c4, if_neg c6])
      · have c6 := Decidable.of_not_not c6
        refine wp_steps (i' := 25) (ls' := [some (.ref 381), some (.int i1), some (.int i2), some (.int i3)]) (st' := [.int ((1 : Int32) <<< (i3 &&& 31)), .int i2]) (h' := h) (P := True) 3 rfl rfl trivial ?_
        refine wp_J (j := 27) (st' := [.int ((1 : Int32) <<< (i3 &&& 31)), .int i2]) rfl rfl ?_
        exact J _ (by rw [if_pos c4, if_pos c6])
def F_203_4 (r : Nat → Int32) (i1 : Int32) (z : Nat) (s : Int32) : Int32 := (s ||| ((if (V_198 (r) (nI z) (3 : Int32)) = 0 then (if (V_198 (r) (nI z) (4 : Int32)) = i1 then ((1 : Int32) <<< ((nI z) &&& 31)) else 0) else 0) : Int32))
theorem lp_203_4 {d : Nat} {h : mxH} {Q : mxO → mxH → Prop} {i1 : Int32} {s0 : Int32} {n : Nat} (z0 : Nat) (G : mxG h)  (hB : (mx_i h 382 4) = nI n) (hn : n < 2147483648) (hz : z0 ≤ n) (ob : ∀ z, z0 ≤ z → z < n → (vp_in ((69 + (6 * (nI z))) + (3 : Int32)) 769 ∧ ((((V_198 (mx_i h 382) (nI z) (3 : Int32)) = 0 → (vp_in ((69 + (6 * (nI z))) + (4 : Int32)) 769 ∧ True)) ∧ (¬ (V_198 (mx_i h 382) (nI z) (3 : Int32)) = 0 → True)) ∧ True))) (k : Q (.inl (some (.int (fz (F_203_4 (mx_i h 382) i1) z0 n s0)))) h) : H_203_4 (d + 1) h i1 s0 (nI z0) Q := by
  have L : ∀ (j z : Nat), z0 ≤ z → z + j = n → H_203_4 (d + 1) h i1 (fz (F_203_4 (mx_i h 382) i1) z0 z s0) (nI z) Q := by
    intro j
    induction j with
    | zero =>
      intro z hz0 hzn
      have hzn : z = n := by omega
      subst hzn
      refine tr_203_4 G  ⟨fun c9 => absurd (hB ▸ c9) Int32.lt_irrefl, fun c9 => k⟩
    | succ j ih =>
      intro z hz0 hzn
      have hih := ih (z + 1) (by omega) (by omega)
      rw [nI_succ, fz_s hz0] at hih
      have hob := ob z hz0 (by omega)
      refine tr_203_4 G  ⟨fun c9 => ?_, fun c9 => absurd (hB.symm ▸ nI_lt (by omega) hn) c9⟩
      obtain ⟨q0, hob⟩ := hob
      refine ⟨q0, ?_⟩
      obtain ⟨q0, hob⟩ := hob
      refine ⟨q0, ?_⟩
      intro v3 ev3
      subst ev3
      exact hih
  have L0 := L (n - z0) z0 (Nat.le_refl _) (by omega)
  simp only [fz_0] at L0
  exact L0
def V_203 (r : Nat → Int32) (i1 : Int32) : Int32 := (fo (F_203_4 (r) i1) ((r 4)).toNatClampNeg 0)
theorem sp_203 {d : Nat} {h : mxH} {Q : mxO → mxH → Prop} {i1 : Int32} (G : mxG h)  (hcb : cB (mx_i h 382 4) 10) (k : Q (.inl (some (.int (V_203 (mx_i h 382) i1)))) h) : mx_wp (d + 1) 203 0 (mx_fr 203 [.ref 381, .int i1]) [] h Q := by
  unfold V_203 at k
  obtain ⟨n, hn, hB⟩ := hcb
  rw [hB, nI_clamp (by omega)] at k
  refine tr_203_0 G  ?_
  refine lp_203_4 (s0 := 0) 0 G  hB (by omega) (Nat.zero_le _) (fun z _ hz => ⟨vpS (by omega), ⟨⟨fun _ => ⟨vpS (by omega), trivial⟩, fun _ => trivial⟩, trivial⟩⟩) ?_
  simp only [fz_fo]
  exact k
/-! 204: StoneBacksModel.weightOf(I)I -/
def H_204_4 (d : Nat) (h : mxH) (i1 : Int32) (i2 : Int32) (i3 : Int32) (Q : mxO → mxH → Prop) : Prop := mx_wp d 204 4 [some (.ref 381), some (.int i1), some (.int i2), some (.int i3)] [] h Q
set_option maxRecDepth 8000 in
theorem tr_204_0 {d : Nat} {h : mxH} {Q : mxO → mxH → Prop} {i1 : Int32} (G : mxG h)  (H : H_204_4 (d + 1) h i1 0 0 Q) : mx_wp (d + 1) 204 0 (mx_fr 204 [.ref 381, .int i1]) [] h Q := by
  show mx_wp (d + 1) 204 0 [some (.ref 381), some (.int i1), none, none] [] h Q
  refine wp_steps (i' := 4) (ls' := [some (.ref 381), some (.int i1), some (.int 0), some (.int 0)]) (st' := []) (h' := h) (P := True) 4 rfl rfl trivial ?_
  exact H 
set_option maxRecDepth 8000 in
theorem tr_204_4 {d : Nat} {h : mxH} {Q : mxO → mxH → Prop}  {i1 : Int32} {i2 : Int32} {i3 : Int32} (G : mxG h)  (H : ((i3 < (mx_i h 382 4) → ((((V_194 (mx_i h 382) i1 i3) = 0 → True) ∧ (¬ (V_194 (mx_i h 382) i1 i3) = 0 → (vp_in ((69 + (6 * i3)) + (2 : Int32)) 769 ∧ True))) ∧ (∀ (v2 : Int32), v2 = ((if (V_194 (mx_i h 382) i1 i3) = 0 then 0 else (V_198 (mx_i h 382) i3 (2 : Int32))) : Int32) → H_204_4 (d + 1) h i1 (i2 + v2) (i3 + 1) Q))) ∧ (¬ i3 < (mx_i h 382 4) → Q (.inl (some (.int i2))) h))) : H_204_4 (d + 1) h i1 i2 i3 Q := by
  show mx_wp (d + 1) 204 4 [some (.ref 381), some (.int i1), some (.int i2), some (.int i3)] [] h Q
  refine wp_steps (i' := 9) (ls' := [some (.ref 381), some (.int i1), some (.int i2), some (.int i3)]) (st' := [.int (mx_i h 382 4), .int i3]) (h' := h) (P := ((mxT 381).1 = 11 ∧ mxG h) ∧ (((mxT 382).1 = 50 ∧ mxG h) ∧ vp_in 4 (mxT 382).2) ∧ True) 5 rfl rfl ⟨⟨(congrArg Prod.fst sT_381), G⟩, (cA sT_382 G (vpl rfl)), trivial⟩ ?_
  refine wp_br (P := True) (c := (mx_i h 382 4) ≤ i3) (t := 25) (st' := []) rfl rfl trivial (fun c1 => ?_) (fun c1 => ?_)
  · have c1 := Int32.not_lt.mpr c1
    have H := H.2 c1
    refine wp_steps (i' := 26) (ls' := [some (.ref 381), some (.int i1), some (.int i2), some (.int i3)]) (st' := [.int i2]) (h' := h) (P := True) 1 rfl rfl trivial ?_
    exact wp_end (o := .inl (some (.int i2))) (h' := h) (P := True) rfl rfl trivial H
  · have c1 := Int32.not_le.mp c1
    have H := H.1 c1
    refine wp_steps (i' := 13) (ls' := [some (.ref 381), some (.int i1), some (.int i2), some (.int i3)]) (st' := [.int i3, .int i1, .int i2]) (h' := h) (P := True) 3 rfl rfl trivial ?_
    refine wp_call (b := false) (y' := 194) (as := [.int i1, .int i3]) (rest := [.int i2]) (P := True) rfl (by with_unfolding_all rfl) trivial (Nat.le_of_ble_eq_true rfl) (sp_194 G ?_)
    show mx_wp (d + 1) 204 14 [some (.ref 381), some (.int i1), some (.int i2), some (.int i3)] [.int (V_194 (mx_i h 382) i1 i3), .int i2] h Q
    have J : ∀ (v2 : Int32) (ev2 : v2 = ((if (V_194 (mx_i h 382) i1 i3) = 0 then 0 else (V_198 (mx_i h 382) i3 (2 : Int32))) : Int32)), mx_wp (d + 1) 204 21 [some (.ref 381), some (.int i1), some (.int i2), some (.int i3)] [.int v2, .int i2] h Q := by
      intro v2 ev2
      have H := H.2 v2 ev2
      refine wp_steps (i' := 24) (ls' := [some (.ref 381), some (.int i1), some (.int (i2 + v2)), some (.int (i3 + 1))]) (st' := []) (h' := h) (P := True) 3 rfl rfl trivial ?_
      refine wp_J (j := 4) (st' := []) rfl rfl ?_
      exact H 
    have H := H.1
    refine wp_br (P := True) (c := (V_194 (mx_i h 382) i1 i3) = 0) (t := 20) (st' := [.int i2]) rfl rfl trivial (fun c3 => ?_) (fun c3 => ?_)
    · skip
      refine wp_steps (i' := 21) (ls' := [some (.ref 381), some (.int i1), some (.int i2), some (.int i3)]) (st' := [.int 0, .int i2]) (h' := h) (P := True) 1 rfl rfl trivial ?_
      exact J _ (by rw [if_pos c3])
    · skip
      have H := H.2 c3
      refine wp_steps (i' := 18) (ls' := [some (.ref 381), some (.int i1), some (.int i2), some (.int i3)]) (st' := [.int 2, .int i3, .ref 381, .int i2]) (h' := h) (P := True) 3 rfl rfl trivial ?_
      obtain ⟨o4, H⟩ := H
      refine wp_call (b := false) (y' := 198) (as := [.ref 381, .int i3, .int 2]) (rest := [.int i2]) (P := ((mxT 381).1 = mxRc 198 ∧ mxG h)) rfl (by with_unfolding_all rfl) ⟨(congrArg Prod.fst sT_381), G⟩ (Nat.le_of_ble_eq_true rfl) (sp_198 G o4 ?_)
      show mx_wp (d + 1) 204 19 [some (.ref 381), some (.int i1), some (.int i2), some (.int i3)] [.int (V_198 (mx_i h 382) i3 (2 : Int32)), .int i2] h Q
      refine wp_J (j := 21) (st' := [.int (V_198 (mx_i h 382) i3 (2 : Int32)), .int i2]) rfl rfl ?_
      exact J _ (by rw [if_neg c3])
def F_204_4 (r : Nat → Int32) (i1 : Int32) (z : Nat) (s : Int32) : Int32 := (s + ((if (V_194 (r) i1 (nI z)) = 0 then 0 else (V_198 (r) (nI z) (2 : Int32))) : Int32))
theorem lp_204_4 {d : Nat} {h : mxH} {Q : mxO → mxH → Prop} {i1 : Int32} {s0 : Int32} {n : Nat} (z0 : Nat) (G : mxG h)  (hB : (mx_i h 382 4) = nI n) (hn : n < 2147483648) (hz : z0 ≤ n) (ob : ∀ z, z0 ≤ z → z < n → ((((V_194 (mx_i h 382) i1 (nI z)) = 0 → True) ∧ (¬ (V_194 (mx_i h 382) i1 (nI z)) = 0 → (vp_in ((69 + (6 * (nI z))) + (2 : Int32)) 769 ∧ True))) ∧ True)) (k : Q (.inl (some (.int (fz (F_204_4 (mx_i h 382) i1) z0 n s0)))) h) : H_204_4 (d + 1) h i1 s0 (nI z0) Q := by
  have L : ∀ (j z : Nat), z0 ≤ z → z + j = n → H_204_4 (d + 1) h i1 (fz (F_204_4 (mx_i h 382) i1) z0 z s0) (nI z) Q := by
    intro j
    induction j with
    | zero =>
      intro z hz0 hzn
      have hzn : z = n := by omega
      subst hzn
      refine tr_204_4 G  ⟨fun c9 => absurd (hB ▸ c9) Int32.lt_irrefl, fun c9 => k⟩
    | succ j ih =>
      intro z hz0 hzn
      have hih := ih (z + 1) (by omega) (by omega)
      rw [nI_succ, fz_s hz0] at hih
      have hob := ob z hz0 (by omega)
      refine tr_204_4 G  ⟨fun c9 => ?_, fun c9 => absurd (hB.symm ▸ nI_lt (by omega) hn) c9⟩
      obtain ⟨q0, hob⟩ := hob
      refine ⟨q0, ?_⟩
      intro v2 ev2
      subst ev2
      exact hih
  have L0 := L (n - z0) z0 (Nat.le_refl _) (by omega)
  simp only [fz_0] at L0
  exact L0
def V_204 (r : Nat → Int32) (i1 : Int32) : Int32 := (fo (F_204_4 (r) i1) ((r 4)).toNatClampNeg 0)
theorem sp_204 {d : Nat} {h : mxH} {Q : mxO → mxH → Prop} {i1 : Int32} (G : mxG h)  (hcb : cB (mx_i h 382 4) 10) (k : Q (.inl (some (.int (V_204 (mx_i h 382) i1)))) h) : mx_wp (d + 1) 204 0 (mx_fr 204 [.ref 381, .int i1]) [] h Q := by
  unfold V_204 at k
  obtain ⟨n, hn, hB⟩ := hcb
  rw [hB, nI_clamp (by omega)] at k
  refine tr_204_0 G  ?_
  refine lp_204_4 (s0 := 0) 0 G  hB (by omega) (Nat.zero_le _) (fun z _ hz => ⟨⟨fun _ => trivial, fun _ => ⟨vpS (by omega), trivial⟩⟩, trivial⟩) ?_
  simp only [fz_fo]
  exact k
/-! 205: StoneBacksModel.load(I)I -/
set_option maxRecDepth 8000 in
theorem tr_205_0 {d : Nat} {h : mxH} {Q : mxO → mxH → Prop} {i1 : Int32} (G : mxG h)  (H : (cB (mx_i h 382 4) 10 ∧ Q (.inl (some (.int (V_204 (mx_i h 382) (V_203 (mx_i h 382) i1))))) h)) : mx_wp (d + 2) 205 0 (mx_fr 205 [.ref 381, .int i1]) [] h Q := by
  show mx_wp (d + 2) 205 0 [some (.ref 381), some (.int i1)] [] h Q
  refine wp_steps (i' := 3) (ls' := [some (.ref 381), some (.int i1)]) (st' := [.int i1, .ref 381, .ref 381]) (h' := h) (P := True) 3 rfl rfl trivial ?_
  obtain ⟨o1, H⟩ := H
  refine wp_call (b := false) (y' := 203) (as := [.ref 381, .int i1]) (rest := [.ref 381]) (P := ((mxT 381).1 = mxRc 203 ∧ mxG h)) rfl (by with_unfolding_all rfl) ⟨(congrArg Prod.fst sT_381), G⟩ (Nat.le_of_ble_eq_true rfl) (sp_203 G o1 ?_)
  show mx_wp (d + 2) 205 4 [some (.ref 381), some (.int i1)] [.int (V_203 (mx_i h 382) i1), .ref 381] h Q
  refine wp_call (b := false) (y' := 204) (as := [.ref 381, .int (V_203 (mx_i h 382) i1)]) (rest := []) (P := ((mxT 381).1 = mxRc 204 ∧ mxG h)) rfl (by with_unfolding_all rfl) ⟨(congrArg Prod.fst sT_381), G⟩ (Nat.le_of_ble_eq_true rfl) (sp_204 G o1 ?_)
  show mx_wp (d + 2) 205 5 [some (.ref 381), some (.int i1)] [.int (V_204 (mx_i h 382) (V_203 (mx_i h 382) i1))] h Q
  exact wp_end (o := .inl (some (.int (V_204 (mx_i h 382) (V_203 (mx_i h 382) i1))))) (h' := h) (P := True) rfl rfl trivial H
def V_205 (r : Nat → Int32) (i1 : Int32) : Int32 := (V_204 (r) (V_203 (r) i1))
theorem sp_205 {d : Nat} {h : mxH} {Q : mxO → mxH → Prop} {i1 : Int32} (G : mxG h)  (x0 : cB (mx_i h 382 4) 10) (k : Q (.inl (some (.int (V_205 (mx_i h 382) i1)))) h) : mx_wp (d + 2) 205 0 (mx_fr 205 [.ref 381, .int i1]) [] h Q := by
  unfold V_205 at k
  have hob : (cB (mx_i h 382 4) 10 ∧ True) := ⟨x0, trivial⟩
  refine tr_205_0 G  ?_
  obtain ⟨q0, hob⟩ := hob
  refine ⟨q0, ?_⟩
  exact k
/-! 206: StoneBacksModel.isBowed(I)Z -/
set_option maxRecDepth 8000 in
theorem tr_206_0 {d : Nat} {h : mxH} {Q : mxO → mxH → Prop} {i1 : Int32} (G : mxG h)  (H : (cB (mx_i h 382 4) 10 ∧ (vp_in ((33 + (6 * i1)) + (1 : Int32)) 769 ∧ ((((V_196 (mx_i h 382) i1 (1 : Int32)) < (V_205 (mx_i h 382) i1) → True) ∧ (¬ (V_196 (mx_i h 382) i1 (1 : Int32)) < (V_205 (mx_i h 382) i1) → (vp_in ((33 + (6 * i1)) + (4 : Int32)) 769 ∧ (((V_196 (mx_i h 382) i1 (4 : Int32)) = 99 → True) ∧ (¬ (V_196 (mx_i h 382) i1 (4 : Int32)) = 99 → (vp_in ((33 + (6 * i1)) + (5 : Int32)) 769 ∧ True)))))) ∧ (∀ (v3 : Int32), v3 = ((if (V_196 (mx_i h 382) i1 (1 : Int32)) < (V_205 (mx_i h 382) i1) then 1 else (if (V_196 (mx_i h 382) i1 (4 : Int32)) = 99 then 1 else (if (V_196 (mx_i h 382) i1 (5 : Int32)) = 1 then 1 else 0))) : Int32) → Q (.inl (some (.int v3))) h))))) : mx_wp (d + 3) 206 0 (mx_fr 206 [.ref 381, .int i1]) [] h Q := by
  show mx_wp (d + 3) 206 0 [some (.ref 381), some (.int i1)] [] h Q
  refine wp_steps (i' := 2) (ls' := [some (.ref 381), some (.int i1)]) (st' := [.int i1, .ref 381]) (h' := h) (P := True) 2 rfl rfl trivial ?_
  obtain ⟨o1, H⟩ := H
  refine wp_call (b := false) (y' := 205) (as := [.ref 381, .int i1]) (rest := []) (P := ((mxT 381).1 = mxRc 205 ∧ mxG h)) rfl (by with_unfolding_all rfl) ⟨(congrArg Prod.fst sT_381), G⟩ (Nat.le_of_ble_eq_true rfl) (sp_205 G o1 ?_)
  show mx_wp (d + 3) 206 3 [some (.ref 381), some (.int i1)] [.int (V_205 (mx_i h 382) i1)] h Q
  refine wp_steps (i' := 6) (ls' := [some (.ref 381), some (.int i1)]) (st' := [.int 1, .int i1, .ref 381, .int (V_205 (mx_i h 382) i1)]) (h' := h) (P := True) 3 rfl rfl trivial ?_
  obtain ⟨o2, H⟩ := H
  refine wp_call (b := false) (y' := 196) (as := [.ref 381, .int i1, .int 1]) (rest := [.int (V_205 (mx_i h 382) i1)]) (P := ((mxT 381).1 = mxRc 196 ∧ mxG h)) rfl (by with_unfolding_all rfl) ⟨(congrArg Prod.fst sT_381), G⟩ (Nat.le_of_ble_eq_true rfl) (sp_196 G o2 ?_)
  show mx_wp (d + 3) 206 7 [some (.ref 381), some (.int i1)] [.int (V_196 (mx_i h 382) i1 (1 : Int32)), .int (V_205 (mx_i h 382) i1)] h Q
  have J : ∀ (v3 : Int32) (ev3 : v3 = ((if (V_196 (mx_i h 382) i1 (1 : Int32)) < (V_205 (mx_i h 382) i1) then 1 else (if (V_196 (mx_i h 382) i1 (4 : Int32)) = 99 then 1 else (if (V_196 (mx_i h 382) i1 (5 : Int32)) = 1 then 1 else 0))) : Int32)), mx_wp (d + 3) 206 23 [some (.ref 381), some (.int i1)] [.int v3] h Q := by
    intro v3 ev3
    have H := H.2 v3 ev3
    exact wp_end (o := .inl (some (.int v3))) (h' := h) (P := (v3 = 0 ∨ v3 = 1)) rfl rfl (b01 ev3 (by repeat' (first | exact Or.inl rfl | exact Or.inr rfl | split))) H
  have H := H.1
  refine wp_br (P := True) (c := (V_196 (mx_i h 382) i1 (1 : Int32)) < (V_205 (mx_i h 382) i1)) (t := 20) (st' := []) rfl rfl trivial (fun c4 => ?_) (fun c4 => ?_)
  · skip
    refine wp_steps (i' := 21) (ls' := [some (.ref 381), some (.int i1)]) (st' := [.int 1]) (h' := h) (P := True) 1 rfl rfl trivial ?_
    refine wp_J (j := 23) (st' := [.int 1]) rfl rfl ?_
    exact J _ (by rw [if_pos c4])
  · skip
    have H := H.2 c4
    refine wp_steps (i' := 11) (ls' := [some (.ref 381), some (.int i1)]) (st' := [.int 4, .int i1, .ref 381]) (h' := h) (P := True) 3 rfl rfl trivial ?_
    obtain ⟨o5, H⟩ := H
    refine wp_call (b := false) (y' := 196) (as := [.ref 381, .int i1, .int 4]) (rest := []) (P := ((mxT 381).1 = mxRc 196 ∧ mxG h)) rfl (by with_unfolding_all rfl) ⟨(congrArg Prod.fst sT_381), G⟩ (Nat.le_of_ble_eq_true rfl) (sp_196 G o5 ?_)
    show mx_wp (d + 3) 206 12 [some (.ref 381), some (.int i1)] [.int (V_196 (mx_i h 382) i1 (4 : Int32))] h Q
    refine wp_steps (i' := 13) (ls' := [some (.ref 381), some (.int i1)]) (st' := [.int 99, .int (V_196 (mx_i h 382) i1 (4 : Int32))]) (h' := h) (P := True) 1 rfl rfl trivial ?_
    refine wp_br (P := True) (c := (V_196 (mx_i h 382) i1 (4 : Int32)) = 99) (t := 20) (st' := []) rfl rfl trivial (fun c6 => ?_) (fun c6 => ?_)
    · skip
      refine wp_steps (i' := 21) (ls' := [some (.ref 381), some (.int i1)]) (st' := [.int 1]) (h' := h) (P := True) 1 rfl rfl trivial ?_
      refine wp_J (j := 23) (st' := [.int 1]) rfl rfl ?_
      exact J _ (by rw [if_neg c4, if_pos c6])
    · skip
      have H := H.2 c6
      refine wp_steps (i' := 17) (ls' := [some (.ref 381), some (.int i1)]) (st' := [.int 5, .int i1, .ref 381]) (h' := h) (P := True) 3 rfl rfl trivial ?_
      obtain ⟨o7, H⟩ := H
      refine wp_call (b := false) (y' := 196) (as := [.ref 381, .int i1, .int 5]) (rest := []) (P := ((mxT 381).1 = mxRc 196 ∧ mxG h)) rfl (by with_unfolding_all rfl) ⟨(congrArg Prod.fst sT_381), G⟩ (Nat.le_of_ble_eq_true rfl) (sp_196 G o7 ?_)
      show mx_wp (d + 3) 206 18 [some (.ref 381), some (.int i1)] [.int (V_196 (mx_i h 382) i1 (5 : Int32))] h Q
      refine wp_steps (i' := 19) (ls' := [some (.ref 381), some (.int i1)]) (st' := [.int 1, .int (V_196 (mx_i h 382) i1 (5 : Int32))]) (h' := h) (P := True) 1 rfl rfl trivial ?_
      refine wp_br (P := True) (c := ¬ (V_196 (mx_i h 382) i1 (5 : Int32)) = 1) (t := 22) (st' := []) rfl rfl trivial (fun c8 => ?_) (fun c8 => ?_)
      · skip
        refine wp_steps (i' := 23) (ls' := [some (.ref 381), some (.int i1)]) (st' := [.int 0]) (h' := h) (P := True) 1 rfl rfl trivial ?_
        exact J _ (by rw [if_neg c4, if_neg c6, if_neg c8])
      · have c8 := Decidable.of_not_not c8
        refine wp_steps (i' := 21) (ls' := [some (.ref 381), some (.int i1)]) (st' := [.int 1]) (h' := h) (P := True) 1 rfl rfl trivial ?_
        refine wp_J (j := 23) (st' := [.int 1]) rfl rfl ?_
        exact J _ (by rw [if_neg c4, if_neg c6, if_pos c8])
def V_206 (r : Nat → Int32) (i1 : Int32) : Int32 := ((if (V_196 (r) i1 (1 : Int32)) < (V_205 (r) i1) then 1 else (if (V_196 (r) i1 (4 : Int32)) = 99 then 1 else (if (V_196 (r) i1 (5 : Int32)) = 1 then 1 else 0))) : Int32)
theorem sp_206 {d : Nat} {h : mxH} {Q : mxO → mxH → Prop} {i1 : Int32} (G : mxG h)  (x0 : cB (mx_i h 382 4) 10) (x1 : vp_in ((33 + (6 * i1)) + (1 : Int32)) 769) (x2 : (((V_196 (mx_i h 382) i1 (1 : Int32)) < (V_205 (mx_i h 382) i1) → True) ∧ (¬ (V_196 (mx_i h 382) i1 (1 : Int32)) < (V_205 (mx_i h 382) i1) → (vp_in ((33 + (6 * i1)) + (4 : Int32)) 769 ∧ (((V_196 (mx_i h 382) i1 (4 : Int32)) = 99 → True) ∧ (¬ (V_196 (mx_i h 382) i1 (4 : Int32)) = 99 → (vp_in ((33 + (6 * i1)) + (5 : Int32)) 769 ∧ True))))))) (k : Q (.inl (some (.int (V_206 (mx_i h 382) i1)))) h) : mx_wp (d + 3) 206 0 (mx_fr 206 [.ref 381, .int i1]) [] h Q := by
  unfold V_206 at k
  have hob : (cB (mx_i h 382 4) 10 ∧ (vp_in ((33 + (6 * i1)) + (1 : Int32)) 769 ∧ ((((V_196 (mx_i h 382) i1 (1 : Int32)) < (V_205 (mx_i h 382) i1) → True) ∧ (¬ (V_196 (mx_i h 382) i1 (1 : Int32)) < (V_205 (mx_i h 382) i1) → (vp_in ((33 + (6 * i1)) + (4 : Int32)) 769 ∧ (((V_196 (mx_i h 382) i1 (4 : Int32)) = 99 → True) ∧ (¬ (V_196 (mx_i h 382) i1 (4 : Int32)) = 99 → (vp_in ((33 + (6 * i1)) + (5 : Int32)) 769 ∧ True)))))) ∧ True))) := ⟨x0, ⟨x1, ⟨x2, trivial⟩⟩⟩
  refine tr_206_0 G  ?_
  obtain ⟨q0, hob⟩ := hob
  refine ⟨q0, ?_⟩
  obtain ⟨q0, hob⟩ := hob
  refine ⟨q0, ?_⟩
  obtain ⟨q0, hob⟩ := hob
  refine ⟨q0, ?_⟩
  intro v3 ev3
  subst ev3
  exact k
/-! 207: StoneBacksModel.feed(IIIII)I -/
def H_207_13 (d : Nat) (h : mxH) (i1 : Int32) (i2 : Int32) (i3 : Int32) (i4 : Int32) (i5 : Int32) (i6 : Int32) (Q : mxO → mxH → Prop) : Prop := ∀ (w7 : Option Value), mx_wp d 207 13 [some (.ref 381), some (.int i1), some (.int i2), some (.int i3), some (.int i4), some (.int i5), some (.int i6), w7] [] h Q
set_option maxRecDepth 8000 in
theorem tr_207_0 {d : Nat} {h : mxH} {Q : mxO → mxH → Prop} {i1 : Int32} {i2 : Int32} {i3 : Int32} {i4 : Int32} {i5 : Int32} (G : mxG h)  (H : (∀ h1, h1 = mx_wi h 381 0 0 → ((400 < ((mx_i h1 381 8) + 20) → Q (.inl (some (.int (-1)))) h1) ∧ (¬ 400 < ((mx_i h1 381 8) + 20) → H_207_13 d h1 i1 i2 i3 i4 i5 0 Q)))) : mx_wp d 207 0 (mx_fr 207 [.ref 381, .int i1, .int i2, .int i3, .int i4, .int i5]) [] h Q := by
  show mx_wp d 207 0 [some (.ref 381), some (.int i1), some (.int i2), some (.int i3), some (.int i4), some (.int i5), none, none] [] h Q
  refine wp_steps (i' := 3) (ls' := [some (.ref 381), some (.int i1), some (.int i2), some (.int i3), some (.int i4), some (.int i5), none, none]) (st' := []) (h' := mx_wi h 381 0 0) (P := ((mxT 381).1 = 11 ∧ mxG h) ∧ True) 3 rfl rfl ⟨⟨(congrArg Prod.fst sT_381), G⟩, trivial⟩ ?_
  obtain ⟨h1, e2⟩ : ∃ z9, z9 = mx_wi h 381 0 0 := ⟨_, rfl⟩
  rw [← e2]
  have H := H h1 e2
  have G3 : mxG h1 := e2 ▸ mxG_wi G
  refine wp_steps (i' := 8) (ls' := [some (.ref 381), some (.int i1), some (.int i2), some (.int i3), some (.int i4), some (.int i5), none, none]) (st' := [.int 400, .int ((mx_i h1 381 8) + 20)]) (h' := h1) (P := ((mxT 381).1 = 11 ∧ mxG h1) ∧ True) 5 rfl rfl ⟨⟨(congrArg Prod.fst sT_381), G3⟩, trivial⟩ ?_
  refine wp_br (P := True) (c := ((mx_i h1 381 8) + 20) ≤ 400) (t := 11) (st' := []) rfl rfl trivial (fun c4 => ?_) (fun c4 => ?_)
  · have c4 := Int32.not_lt.mpr c4
    have H := H.2 c4
    refine wp_steps (i' := 13) (ls' := [some (.ref 381), some (.int i1), some (.int i2), some (.int i3), some (.int i4), some (.int i5), some (.int 0), none]) (st' := []) (h' := h1) (P := True) 2 rfl rfl trivial ?_
    exact H _
  · have c4 := Int32.not_le.mp c4
    have H := H.1 c4
    refine wp_steps (i' := 10) (ls' := [some (.ref 381), some (.int i1), some (.int i2), some (.int i3), some (.int i4), some (.int i5), none, none]) (st' := [.int (-1)]) (h' := h1) (P := True) 1 rfl rfl trivial ?_
    exact wp_end (o := .inl (some (.int (-1)))) (h' := h1) (P := True) rfl rfl trivial H
set_option maxRecDepth 8000 in
theorem tr_207_13 {d : Nat} {h : mxH} {Q : mxO → mxH → Prop}  {i1 : Int32} {i2 : Int32} {i3 : Int32} {i4 : Int32} {i5 : Int32} {i6 : Int32} (G : mxG h)  (H : ((i6 < 20 → (∀ (v2 : Int32), v2 = ((if i6 < 4 then i1 else (if i6 < 8 then i2 else (if i6 < 12 then i3 else (if i6 < 16 then i4 else i5)))) : Int32) → (vp_in (mx_i h 381 8) 400 ∧ (∀ h4, h4 = mx_wi h 386 (mx_i h 381 8).toNatClampNeg ((v2.toUInt32 >>> ((24 - (8 * (i6 - i6 / 4 * 4))).toUInt32 &&& Int32.toUInt32 31)).toInt32 &&& 255) → (∀ h7, h7 = mx_wi h4 381 8 ((mx_i h4 381 8) + 1) → H_207_13 d h7 i1 i2 i3 i4 i5 (i6 + 1) Q))))) ∧ (¬ i6 < 20 → Q (.inl (some (.int (mx_i h 381 8)))) h))) : H_207_13 d h i1 i2 i3 i4 i5 i6 Q := by
  intro w7
  show mx_wp d 207 13 [some (.ref 381), some (.int i1), some (.int i2), some (.int i3), some (.int i4), some (.int i5), some (.int i6), w7] [] h Q
  refine wp_steps (i' := 15) (ls' := [some (.ref 381), some (.int i1), some (.int i2), some (.int i3), some (.int i4), some (.int i5), some (.int i6), w7]) (st' := [.int 20, .int i6]) (h' := h) (P := True) 2 rfl rfl trivial ?_
  refine wp_br (P := True) (c := 20 ≤ i6) (t := 62) (st' := []) rfl rfl trivial (fun c1 => ?_) (fun c1 => ?_)
  · have c1 := Int32.not_lt.mpr c1
    have H := H.2 c1
    refine wp_steps (i' := 64) (ls' := [some (.ref 381), some (.int i1), some (.int i2), some (.int i3), some (.int i4), some (.int i5), some (.int i6), w7]) (st' := [.int (mx_i h 381 8)]) (h' := h) (P := ((mxT 381).1 = 11 ∧ mxG h) ∧ True) 2 rfl rfl ⟨⟨(congrArg Prod.fst sT_381), G⟩, trivial⟩ ?_
    exact wp_end (o := .inl (some (.int (mx_i h 381 8)))) (h' := h) (P := True) rfl rfl trivial H
  · have c1 := Int32.not_le.mp c1
    have H := H.1 c1
    refine wp_steps (i' := 18) (ls' := [some (.ref 381), some (.int i1), some (.int i2), some (.int i3), some (.int i4), some (.int i5), some (.int i6), w7]) (st' := [.int 4, .int i6]) (h' := h) (P := True) 2 rfl rfl trivial ?_
    have J : ∀ (v2 : Int32) (ev2 : v2 = ((if i6 < 4 then i1 else (if i6 < 8 then i2 else (if i6 < 12 then i3 else (if i6 < 16 then i4 else i5)))) : Int32)), mx_wp d 207 37 [some (.ref 381), some (.int i1), some (.int i2), some (.int i3), some (.int i4), some (.int i5), some (.int i6), w7] [.int v2] h Q := by
      intro v2 ev2
      have H := H v2 ev2
      obtain ⟨o3, H⟩ := H
      refine wp_steps (i' := 54) (ls' := [some (.ref 381), some (.int i1), some (.int i2), some (.int i3), some (.int i4), some (.int i5), some (.int i6), some (.int v2)]) (st' := []) (h' := mx_wi h 386 (mx_i h 381 8).toNatClampNeg ((v2.toUInt32 >>> ((24 - (8 * (i6 - i6 / 4 * 4))).toUInt32 &&& Int32.toUInt32 31)).toInt32 &&& 255)) (P := ((mxT 381).1 = 11 ∧ mxG h) ∧ ((mxT 381).1 = 11 ∧ mxG h) ∧ (¬ (4 : Int32) = 0) ∧ (((mxT 386).1 = 50 ∧ mxG h) ∧ vp_in (mx_i h 381 8) (mxT 386).2) ∧ True) 17 rfl rfl ⟨⟨(congrArg Prod.fst sT_381), G⟩, ⟨(congrArg Prod.fst sT_381), G⟩, (by decide), (cA sT_386 G o3), trivial⟩ ?_
      obtain ⟨h4, e5⟩ : ∃ z9, z9 = mx_wi h 386 (mx_i h 381 8).toNatClampNeg ((v2.toUInt32 >>> ((24 - (8 * (i6 - i6 / 4 * 4))).toUInt32 &&& Int32.toUInt32 31)).toInt32 &&& 255) := ⟨_, rfl⟩
      rw [← e5]
      have H := H h4 e5
      have G6 : mxG h4 := e5 ▸ mxG_wi G
      refine wp_steps (i' := 60) (ls' := [some (.ref 381), some (.int i1), some (.int i2), some (.int i3), some (.int i4), some (.int i5), some (.int i6), some (.int v2)]) (st' := []) (h' := mx_wi h4 381 8 ((mx_i h4 381 8) + 1)) (P := ((mxT 381).1 = 11 ∧ mxG h4) ∧ ((mxT 381).1 = 11 ∧ mxG h4) ∧ True) 6 rfl rfl ⟨⟨(congrArg Prod.fst sT_381), G6⟩, ⟨(congrArg Prod.fst sT_381), G6⟩, trivial⟩ ?_
      obtain ⟨h7, e8⟩ : ∃ z9, z9 = mx_wi h4 381 8 ((mx_i h4 381 8) + 1) := ⟨_, rfl⟩
      rw [← e8]
      have H := H h7 e8
      have G9 : mxG h7 := e8 ▸ mxG_wi G6
      refine wp_steps (i' := 61) (ls' := [some (.ref 381), some (.int i1), some (.int i2), some (.int i3), some (.int i4), some (.int i5), some (.int (i6 + 1)), some (.int v2)]) (st' := []) (h' := h7) (P := True) 1 rfl rfl trivial ?_
      refine wp_J (j := 13) (st' := []) rfl rfl ?_
      exact H _
    refine wp_br (P := True) (c := 4 ≤ i6) (t := 21) (st' := []) rfl rfl trivial (fun c10 => ?_) (fun c10 => ?_)
    · have c10 := Int32.not_lt.mpr c10
      refine wp_steps (i' := 23) (ls' := [some (.ref 381), some (.int i1), some (.int i2), some (.int i3), some (.int i4), some (.int i5), some (.int i6), w7]) (st' := [.int 8, .int i6]) (h' := h) (P := True) 2 rfl rfl trivial ?_
      refine wp_br (P := True) (c := 8 ≤ i6) (t := 26) (st' := []) rfl rfl trivial (fun c11 => ?_) (fun c11 => ?_)
      · have c11 := Int32.not_lt.mpr c11
        refine wp_steps (i' := 28) (ls' := [some (.ref 381), some (.int i1), some (.int i2), some (.int i3), some (.int i4), some (.int i5), some (.int i6), w7]) (st' := [.int 12, .int i6]) (h' := h) (P := True) 2 rfl rfl trivial ?_
        refine wp_br (P := True) (c := 12 ≤ i6) (t := 31) (st' := []) rfl rfl trivial (fun c12 => ?_) (fun c12 => ?_)
        · have c12 := Int32.not_lt.mpr c12
          refine wp_steps (i' := 33) (ls' := [some (.ref 381), some (.int i1), some (.int i2), some (.int i3), some (.int i4), some (.int i5), some (.int i6), w7]) (st' := [.int 16, .int i6]) (h' := h) (P := True) 2 rfl rfl trivial ?_
          refine wp_br (P := True) (c := 16 ≤ i6) (t := 36) (st' := []) rfl rfl trivial (fun c13 => ?_) (fun c13 => ?_)
          · have c13 := Int32.not_lt.mpr c13
            refine wp_steps (i' := 37) (ls' := [some (.ref 381), some (.int i1), some (.int i2), some (.int i3), some (.int i4), some (.int i5), some (.int i6), w7]) (st' := [.int i5]) (h' := h) (P := True) 1 rfl rfl trivial ?_
            exact J _ (by rw [if_neg c10, if_neg c11, if_neg c12, if_neg c13])
          · have c13 := Int32.not_le.mp c13
            refine wp_steps (i' := 35) (ls' := [some (.ref 381), some (.int i1), some (.int i2), some (.int i3), some (.int i4), some (.int i5), some (.int i6), w7]) (st' := [.int i4]) (h' := h) (P := True) 1 rfl rfl trivial ?_
            refine wp_J (j := 37) (st' := [.int i4]) rfl rfl ?_
            exact J _ (by rw [if_neg c10, if_neg c11, if_neg c12, if_pos c13])
        · have c12 := Int32.not_le.mp c12
          refine wp_steps (i' := 30) (ls' := [some (.ref 381), some (.int i1), some (.int i2), some (.int i3), some (.int i4), some (.int i5), some (.int i6), w7]) (st' := [.int i3]) (h' := h) (P := True) 1 rfl rfl trivial ?_
          refine wp_J (j := 37) (st' := [.int i3]) rfl rfl ?_
          exact J _ (by rw [if_neg c10, if_neg c11, if_pos c12])
      · have c11 := Int32.not_le.mp c11
        refine wp_steps (i' := 25) (ls' := [some (.ref 381), some (.int i1), some (.int i2), some (.int i3), some (.int i4), some (.int i5), some (.int i6), w7]) (st' := [.int i2]) (h' := h) (P := True) 1 rfl rfl trivial ?_
        refine wp_J (j := 37) (st' := [.int i2]) rfl rfl ?_
        exact J _ (by rw [if_neg c10, if_pos c11])
    · have c10 := Int32.not_le.mp c10
      refine wp_steps (i' := 20) (ls' := [some (.ref 381), some (.int i1), some (.int i2), some (.int i3), some (.int i4), some (.int i5), some (.int i6), w7]) (st' := [.int i1]) (h' := h) (P := True) 1 rfl rfl trivial ?_
      refine wp_J (j := 37) (st' := [.int i1]) rfl rfl ?_
      exact J _ (by rw [if_pos c10])
def F_207_13 (i1 : Int32) (i2 : Int32) (i3 : Int32) (i4 : Int32) (i5 : Int32) (z : Nat) (s : mxH) : mxH := (mx_wi (mx_wi s 386 (mx_i s 381 8).toNatClampNeg ((((if (nI z) < 4 then i1 else (if (nI z) < 8 then i2 else (if (nI z) < 12 then i3 else (if (nI z) < 16 then i4 else i5)))) : Int32).toUInt32 >>> ((24 - (8 * ((nI z) - (nI z) / 4 * 4))).toUInt32 &&& Int32.toUInt32 31)).toInt32 &&& 255)) 381 8 ((mx_i (mx_wi s 386 (mx_i s 381 8).toNatClampNeg ((((if (nI z) < 4 then i1 else (if (nI z) < 8 then i2 else (if (nI z) < 12 then i3 else (if (nI z) < 16 then i4 else i5)))) : Int32).toUInt32 >>> ((24 - (8 * ((nI z) - (nI z) / 4 * 4))).toUInt32 &&& Int32.toUInt32 31)).toInt32 &&& 255)) 381 8) + 1))
theorem K_207_13 {i1 : Int32} {i2 : Int32} {i3 : Int32} {i4 : Int32} {i5 : Int32} (z : Nat) (s : mxH) : mxK s ((F_207_13 i1 i2 i3 i4 i5) z s) := by
  unfold F_207_13
  (try simp only []); repeat' (first | with_reducible exact mxK_rfl | with_reducible exact mxK_wi | with_reducible exact mxK_wrow | with_reducible refine mxK_ite ?_ ?_ | with_reducible refine mxK_tr ?_ mxK_wi | with_reducible refine mxK_tr ?_ mxK_wrow)
theorem lp_207_13 {d : Nat} {Q : mxO → mxH → Prop} {i1 : Int32} {i2 : Int32} {i3 : Int32} {i4 : Int32} {i5 : Int32} {s0 : mxH} {n : Nat} (z0 : Nat) (G : mxG s0)  (hB : ∀ z, z0 ≤ z → z ≤ n → (20 : Int32) = nI n) (hn : n < 2147483648) (hz : z0 ≤ n) (ob : ∀ z, z0 ≤ z → z < n → (vp_in (mx_i (fz (F_207_13 i1 i2 i3 i4 i5) z0 z s0) 381 8) 400 ∧ True)) (k : Q (.inl (some (.int (mx_i (fz (F_207_13 i1 i2 i3 i4 i5) z0 n s0) 381 8)))) (fz (F_207_13 i1 i2 i3 i4 i5) z0 n s0)) : H_207_13 d s0 i1 i2 i3 i4 i5 (nI z0) Q := by
  have L : ∀ (j z : Nat), z0 ≤ z → z + j = n → H_207_13 d (fz (F_207_13 i1 i2 i3 i4 i5) z0 z s0) i1 i2 i3 i4 i5 (nI z) Q := by
    intro j
    induction j with
    | zero =>
      intro z hz0 hzn
      have hzn : z = n := by omega
      subst hzn
      have Gz : mxG (fz (F_207_13 i1 i2 i3 i4 i5) z0 z s0) := mxK_G (mxK_fz (g := fun s => s) (fun z s => K_207_13 z s) z0 z s0) G
      have hBz := hB z hz0 (by omega)
      refine tr_207_13 Gz  ⟨fun c9 => absurd (hBz ▸ c9) Int32.lt_irrefl, fun c9 => k⟩
    | succ j ih =>
      intro z hz0 hzn
      have hih := ih (z + 1) (by omega) (by omega)
      rw [nI_succ, fz_s hz0] at hih
      have Gz : mxG (fz (F_207_13 i1 i2 i3 i4 i5) z0 z s0) := mxK_G (mxK_fz (g := fun s => s) (fun z s => K_207_13 z s) z0 z s0) G
      have hBz := hB z hz0 (by omega)
      have hob := ob z hz0 (by omega)
      refine tr_207_13 Gz  ⟨fun c9 => ?_, fun c9 => absurd (hBz.symm ▸ nI_lt (by omega) hn) c9⟩
      intro v2 ev2
      subst ev2
      obtain ⟨q0, hob⟩ := hob
      refine ⟨q0, ?_⟩
      intro h4 eh4
      subst eh4
      intro h7 eh7
      subst eh7
      exact hih
  have L0 := L (n - z0) z0 (Nat.le_refl _) (by omega)
  simp only [fz_0] at L0
  exact L0
/-! 208: StoneBacksModel.end(I)Z -/
set_option maxRecDepth 8000 in
theorem tr_208_0 {d : Nat} {h : mxH} {Q : mxO → mxH → Prop} {i1 : Int32} (G : mxG h)  (H : (∀ h1, h1 = mx_wi h 381 0 0 → (((V_191 (mx_i h1 382) i1 (0 : Int32) (mx_i h1 381 8)) = 0 → Q (.inl (some (.int 0))) h1) ∧ (¬ (V_191 (mx_i h1 382) i1 (0 : Int32) (mx_i h1 381 8)) = 0 → (∀ h5, h5 = mx_wi h1 381 8 i1 → Q (.inl (some (.int 1))) h5))))) : mx_wp (d + 1) 208 0 (mx_fr 208 [.ref 381, .int i1]) [] h Q := by
  show mx_wp (d + 1) 208 0 [some (.ref 381), some (.int i1)] [] h Q
  refine wp_steps (i' := 3) (ls' := [some (.ref 381), some (.int i1)]) (st' := []) (h' := mx_wi h 381 0 0) (P := ((mxT 381).1 = 11 ∧ mxG h) ∧ True) 3 rfl rfl ⟨⟨(congrArg Prod.fst sT_381), G⟩, trivial⟩ ?_
  obtain ⟨h1, e2⟩ : ∃ z9, z9 = mx_wi h 381 0 0 := ⟨_, rfl⟩
  rw [← e2]
  have H := H h1 e2
  have G3 : mxG h1 := e2 ▸ mxG_wi G
  refine wp_steps (i' := 7) (ls' := [some (.ref 381), some (.int i1)]) (st' := [.int (mx_i h1 381 8), .int 0, .int i1]) (h' := h1) (P := ((mxT 381).1 = 11 ∧ mxG h1) ∧ True) 4 rfl rfl ⟨⟨(congrArg Prod.fst sT_381), G3⟩, trivial⟩ ?_
  refine wp_call (b := false) (y' := 191) (as := [.int i1, .int 0, .int (mx_i h1 381 8)]) (rest := []) (P := True) rfl (by with_unfolding_all rfl) trivial (Nat.le_of_ble_eq_true rfl) (sp_191 G3 ?_)
  show mx_wp (d + 1) 208 8 [some (.ref 381), some (.int i1)] [.int (V_191 (mx_i h1 382) i1 (0 : Int32) (mx_i h1 381 8))] h1 Q
  refine wp_br (P := True) (c := ¬ (V_191 (mx_i h1 382) i1 (0 : Int32) (mx_i h1 381 8)) = 0) (t := 11) (st' := []) rfl rfl trivial (fun c4 => ?_) (fun c4 => ?_)
  · skip
    have H := H.2 c4
    refine wp_steps (i' := 14) (ls' := [some (.ref 381), some (.int i1)]) (st' := []) (h' := mx_wi h1 381 8 i1) (P := ((mxT 381).1 = 11 ∧ mxG h1) ∧ True) 3 rfl rfl ⟨⟨(congrArg Prod.fst sT_381), G3⟩, trivial⟩ ?_
    obtain ⟨h5, e6⟩ : ∃ z9, z9 = mx_wi h1 381 8 i1 := ⟨_, rfl⟩
    rw [← e6]
    have H := H h5 e6
    have G7 : mxG h5 := e6 ▸ mxG_wi G3
    refine wp_steps (i' := 15) (ls' := [some (.ref 381), some (.int i1)]) (st' := [.int 1]) (h' := h5) (P := True) 1 rfl rfl trivial ?_
    exact wp_end (o := .inl (some (.int 1))) (h' := h5) (P := ((1 : Int32) = 0 ∨ (1 : Int32) = 1)) rfl rfl (Or.inr rfl) H
  · have c4 := Decidable.of_not_not c4
    have H := H.1 c4
    refine wp_steps (i' := 10) (ls' := [some (.ref 381), some (.int i1)]) (st' := [.int 0]) (h' := h1) (P := True) 1 rfl rfl trivial ?_
    exact wp_end (o := .inl (some (.int 0))) (h' := h1) (P := ((0 : Int32) = 0 ∨ (0 : Int32) = 1)) rfl rfl (Or.inl rfl) H
def V_208 (h : mxH) (i1 : Int32) : Int32 := (if (V_191 (mx_i (mx_wi h 381 0 0) 382) i1 (0 : Int32) (mx_i (mx_wi h 381 0 0) 381 8)) = 0 then 0 else 1)
def W_208 (h : mxH) (i1 : Int32) : mxH := (if (V_191 (mx_i (mx_wi h 381 0 0) 382) i1 (0 : Int32) (mx_i (mx_wi h 381 0 0) 381 8)) = 0 then (mx_wi h 381 0 0) else (mx_wi (mx_wi h 381 0 0) 381 8 i1))
theorem KW_208 {h : mxH} {i1 : Int32} : mxK h (W_208 h i1) := by
  unfold W_208
  repeat' (first | with_reducible exact mxK_rfl | with_reducible exact mxK_wi | with_reducible exact mxK_wrow | with_reducible refine mxK_ite ?_ ?_ | with_reducible refine mxK_tr ?_ mxK_wi | with_reducible refine mxK_tr ?_ mxK_wrow)
theorem sp_208 {d : Nat} {h : mxH} {Q : mxO → mxH → Prop} {i1 : Int32} (G : mxG h)  (k : Q (.inl (some (.int (V_208 h i1)))) (W_208 h i1)) : mx_wp (d + 1) 208 0 (mx_fr 208 [.ref 381, .int i1]) [] h Q := by
  unfold V_208 W_208 at k
  refine tr_208_0 G  ?_
  intro h1 eh1
  subst eh1
  refine ⟨fun c9 => ?_, fun c9 => ?_⟩
  · try simp only [if_pos c9] at k
    exact k
  · try simp only [if_neg c9] at k
    intro h5 eh5
    subst eh5
    exact k
/-! 209: StoneBacksModel.letter(I)I -/
set_option maxRecDepth 8000 in
theorem tr_209_0 {d : Nat} {h : mxH} {Q : mxO → mxH → Prop} {i1 : Int32} (G : mxG h)  (H : ((((mx_i h 381 9) = (-1) → (vp_in i1 400 ∧ True)) ∧ (¬ (mx_i h 381 9) = (-1) → (vp_in ((mx_i h 381 9) + i1) 769 ∧ True))) ∧ (∀ (v1 : Int32), v1 = ((if (mx_i h 381 9) = (-1) then (mx_i h 386 i1.toNatClampNeg) else (mx_i h 382 ((mx_i h 381 9) + i1).toNatClampNeg)) : Int32) → Q (.inl (some (.int v1))) h))) : mx_wp d 209 0 (mx_fr 209 [.ref 381, .int i1]) [] h Q := by
  show mx_wp d 209 0 [some (.ref 381), some (.int i1)] [] h Q
  refine wp_steps (i' := 3) (ls' := [some (.ref 381), some (.int i1)]) (st' := [.int (-1), .int (mx_i h 381 9)]) (h' := h) (P := ((mxT 381).1 = 11 ∧ mxG h) ∧ True) 3 rfl rfl ⟨⟨(congrArg Prod.fst sT_381), G⟩, trivial⟩ ?_
  have J : ∀ (v1 : Int32) (ev1 : v1 = ((if (mx_i h 381 9) = (-1) then (mx_i h 386 i1.toNatClampNeg) else (mx_i h 382 ((mx_i h 381 9) + i1).toNatClampNeg)) : Int32)), mx_wp d 209 16 [some (.ref 381), some (.int i1)] [.int v1] h Q := by
    intro v1 ev1
    have H := H.2 v1 ev1
    exact wp_end (o := .inl (some (.int v1))) (h' := h) (P := True) rfl rfl trivial H
  have H := H.1
  refine wp_br (P := True) (c := ¬ (mx_i h 381 9) = (-1)) (t := 9) (st' := []) rfl rfl trivial (fun c2 => ?_) (fun c2 => ?_)
  · skip
    have H := H.2 c2
    obtain ⟨o3, H⟩ := H
    refine wp_steps (i' := 16) (ls' := [some (.ref 381), some (.int i1)]) (st' := [.int (mx_i h 382 ((mx_i h 381 9) + i1).toNatClampNeg)]) (h' := h) (P := ((mxT 381).1 = 11 ∧ mxG h) ∧ ((mxT 381).1 = 11 ∧ mxG h) ∧ (((mxT 382).1 = 50 ∧ mxG h) ∧ vp_in ((mx_i h 381 9) + i1) (mxT 382).2) ∧ True) 7 rfl rfl ⟨⟨(congrArg Prod.fst sT_381), G⟩, ⟨(congrArg Prod.fst sT_381), G⟩, (cA sT_382 G o3), trivial⟩ ?_
    exact J _ (by rw [if_neg c2])
  · have c2 := Decidable.of_not_not c2
    have H := H.1 c2
    obtain ⟨o4, H⟩ := H
    refine wp_steps (i' := 8) (ls' := [some (.ref 381), some (.int i1)]) (st' := [.int (mx_i h 386 i1.toNatClampNeg)]) (h' := h) (P := ((mxT 381).1 = 11 ∧ mxG h) ∧ (((mxT 386).1 = 50 ∧ mxG h) ∧ vp_in i1 (mxT 386).2) ∧ True) 4 rfl rfl ⟨⟨(congrArg Prod.fst sT_381), G⟩, (cA sT_386 G o4), trivial⟩ ?_
    refine wp_J (j := 16) (st' := [.int (mx_i h 386 i1.toNatClampNeg)]) rfl rfl ?_
    exact J _ (by rw [if_pos c2])
def V_209 (h : mxH) (i1 : Int32) : Int32 := ((if (mx_i h 381 9) = (-1) then (mx_i h 386 i1.toNatClampNeg) else (mx_i h 382 ((mx_i h 381 9) + i1).toNatClampNeg)) : Int32)
theorem sp_209 {d : Nat} {h : mxH} {Q : mxO → mxH → Prop} {i1 : Int32} (G : mxG h)  (x0 : (((mx_i h 381 9) = (-1) → (vp_in i1 400 ∧ True)) ∧ (¬ (mx_i h 381 9) = (-1) → (vp_in ((mx_i h 381 9) + i1) 769 ∧ True)))) (k : Q (.inl (some (.int (V_209 h i1)))) h) : mx_wp d 209 0 (mx_fr 209 [.ref 381, .int i1]) [] h Q := by
  unfold V_209 at k
  have hob : ((((mx_i h 381 9) = (-1) → (vp_in i1 400 ∧ True)) ∧ (¬ (mx_i h 381 9) = (-1) → (vp_in ((mx_i h 381 9) + i1) 769 ∧ True))) ∧ True) := ⟨x0, trivial⟩
  refine tr_209_0 G  ?_
  obtain ⟨q0, hob⟩ := hob
  refine ⟨q0, ?_⟩
  intro v1 ev1
  subst ev1
  exact k
/-! 210: StoneBacksModel.skip()V -/
def H_210_0 (d : Nat) (h : mxH) (Q : mxO → mxH → Prop) : Prop := mx_wp d 210 0 [some (.ref 381)] [] h Q
set_option maxRecDepth 8000 in
theorem tr_210_e {d : Nat} {h : mxH} {Q : mxO → mxH → Prop}  (G : mxG h)  (H : H_210_0 (d + 1) h Q) : mx_wp (d + 1) 210 0 (mx_fr 210 [.ref 381]) [] h Q := by
  show mx_wp (d + 1) 210 0 [some (.ref 381)] [] h Q
  exact H 
set_option maxRecDepth 8000 in
theorem tr_210_0 {d : Nat} {h : mxH} {Q : mxO → mxH → Prop}  (G : mxG h)  (H : (((mx_i h 381 11) < (mx_i h 381 10) → ((((mx_i h 381 9) = (-1) → (vp_in (mx_i h 381 11) 400 ∧ True)) ∧ (¬ (mx_i h 381 9) = (-1) → (vp_in ((mx_i h 381 9) + (mx_i h 381 11)) 769 ∧ True))) ∧ (((V_209 h (mx_i h 381 11)) = 32 → (∀ h4, h4 = mx_wi h 381 11 ((mx_i h 381 11) + 1) → H_210_0 (d + 1) h4 Q)) ∧ (¬ (V_209 h (mx_i h 381 11)) = 32 → Q (.inl none) h)))) ∧ (¬ (mx_i h 381 11) < (mx_i h 381 10) → Q (.inl none) h))) : H_210_0 (d + 1) h  Q := by
  show mx_wp (d + 1) 210 0 [some (.ref 381)] [] h Q
  refine wp_steps (i' := 4) (ls' := [some (.ref 381)]) (st' := [.int (mx_i h 381 10), .int (mx_i h 381 11)]) (h' := h) (P := ((mxT 381).1 = 11 ∧ mxG h) ∧ ((mxT 381).1 = 11 ∧ mxG h) ∧ True) 4 rfl rfl ⟨⟨(congrArg Prod.fst sT_381), G⟩, ⟨(congrArg Prod.fst sT_381), G⟩, trivial⟩ ?_
  refine wp_br (P := True) (c := (mx_i h 381 10) ≤ (mx_i h 381 11)) (t := 18) (st' := []) rfl rfl trivial (fun c1 => ?_) (fun c1 => ?_)
  · have c1 := Int32.not_lt.mpr c1
    have H := H.2 c1
    exact wp_end (o := .inl none) (h' := h) (P := True) rfl rfl trivial H
  · have c1 := Int32.not_le.mp c1
    have H := H.1 c1
    refine wp_steps (i' := 8) (ls' := [some (.ref 381)]) (st' := [.int (mx_i h 381 11), .ref 381]) (h' := h) (P := ((mxT 381).1 = 11 ∧ mxG h) ∧ True) 3 rfl rfl ⟨⟨(congrArg Prod.fst sT_381), G⟩, trivial⟩ ?_
    obtain ⟨o2, H⟩ := H
    refine wp_call (b := false) (y' := 209) (as := [.ref 381, .int (mx_i h 381 11)]) (rest := []) (P := ((mxT 381).1 = mxRc 209 ∧ mxG h)) rfl (by with_unfolding_all rfl) ⟨(congrArg Prod.fst sT_381), G⟩ (Nat.le_of_ble_eq_true rfl) (sp_209 G o2 ?_)
    show mx_wp (d + 1) 210 9 [some (.ref 381)] [.int (V_209 h (mx_i h 381 11))] h Q
    refine wp_steps (i' := 10) (ls' := [some (.ref 381)]) (st' := [.int 32, .int (V_209 h (mx_i h 381 11))]) (h' := h) (P := True) 1 rfl rfl trivial ?_
    refine wp_br (P := True) (c := ¬ (V_209 h (mx_i h 381 11)) = 32) (t := 18) (st' := []) rfl rfl trivial (fun c3 => ?_) (fun c3 => ?_)
    · skip
      have H := H.2 c3
      exact wp_end (o := .inl none) (h' := h) (P := True) rfl rfl trivial H
    · have c3 := Decidable.of_not_not c3
      have H := H.1 c3
      refine wp_steps (i' := 17) (ls' := [some (.ref 381)]) (st' := []) (h' := mx_wi h 381 11 ((mx_i h 381 11) + 1)) (P := ((mxT 381).1 = 11 ∧ mxG h) ∧ ((mxT 381).1 = 11 ∧ mxG h) ∧ True) 6 rfl rfl ⟨⟨(congrArg Prod.fst sT_381), G⟩, ⟨(congrArg Prod.fst sT_381), G⟩, trivial⟩ ?_
      obtain ⟨h4, e5⟩ : ∃ z9, z9 = mx_wi h 381 11 ((mx_i h 381 11) + 1) := ⟨_, rfl⟩
      rw [← e5]
      have H := H h4 e5
      have G6 : mxG h4 := e5 ▸ mxG_wi G
      refine wp_J (j := 0) (st' := []) rfl rfl ?_
      exact H 
/-! 213: StoneBacksModel.wrong(I)V -/
set_option maxRecDepth 8000 in
theorem tr_213_0 {d : Nat} {h : mxH} {Q : mxO → mxH → Prop} {i1 : Int32} (G : mxG h)  (H : (((mx_i h 381 12) = (-1) → (∀ h2, h2 = mx_wi h 381 12 i1 → Q (.inl none) h2)) ∧ (¬ (mx_i h 381 12) = (-1) → Q (.inl none) h))) : mx_wp d 213 0 (mx_fr 213 [.ref 381, .int i1]) [] h Q := by
  show mx_wp d 213 0 [some (.ref 381), some (.int i1)] [] h Q
  refine wp_steps (i' := 3) (ls' := [some (.ref 381), some (.int i1)]) (st' := [.int (-1), .int (mx_i h 381 12)]) (h' := h) (P := ((mxT 381).1 = 11 ∧ mxG h) ∧ True) 3 rfl rfl ⟨⟨(congrArg Prod.fst sT_381), G⟩, trivial⟩ ?_
  refine wp_br (P := True) (c := ¬ (mx_i h 381 12) = (-1)) (t := 7) (st' := []) rfl rfl trivial (fun c1 => ?_) (fun c1 => ?_)
  · skip
    have H := H.2 c1
    exact wp_end (o := .inl none) (h' := h) (P := True) rfl rfl trivial H
  · have c1 := Decidable.of_not_not c1
    have H := H.1 c1
    refine wp_steps (i' := 7) (ls' := [some (.ref 381), some (.int i1)]) (st' := []) (h' := mx_wi h 381 12 i1) (P := ((mxT 381).1 = 11 ∧ mxG h) ∧ True) 3 rfl rfl ⟨⟨(congrArg Prod.fst sT_381), G⟩, trivial⟩ ?_
    obtain ⟨h2, e3⟩ : ∃ z9, z9 = mx_wi h 381 12 i1 := ⟨_, rfl⟩
    rw [← e3]
    have H := H h2 e3
    have G4 : mxG h2 := e3 ▸ mxG_wi G
    exact wp_end (o := .inl none) (h' := h2) (P := True) rfl rfl trivial H
def W_213 (h : mxH) (i1 : Int32) : mxH := (if (mx_i h 381 12) = (-1) then (mx_wi h 381 12 i1) else h)
theorem KW_213 {h : mxH} {i1 : Int32} : mxK h (W_213 h i1) := by
  unfold W_213
  repeat' (first | with_reducible exact mxK_rfl | with_reducible exact mxK_wi | with_reducible exact mxK_wrow | with_reducible refine mxK_ite ?_ ?_ | with_reducible refine mxK_tr ?_ mxK_wi | with_reducible refine mxK_tr ?_ mxK_wrow)
theorem sp_213 {d : Nat} {h : mxH} {Q : mxO → mxH → Prop} {i1 : Int32} (G : mxG h)  (k : Q (.inl none) (W_213 h i1)) : mx_wp d 213 0 (mx_fr 213 [.ref 381, .int i1]) [] h Q := by
  unfold W_213 at k
  refine tr_213_0 G  ?_
  refine ⟨fun c9 => ?_, fun c9 => ?_⟩
  · try simp only [if_pos c9] at k
    intro h2 eh2
    subst eh2
    exact k
  · try simp only [if_neg c9] at k
    exact k
/-! 220: StoneBacksModel.adds(IIII)V -/
set_option maxRecDepth 8000 in
theorem tr_220_0 {d : Nat} {h : mxH} {Q : mxO → mxH → Prop} {i1 : Int32} {i2 : Int32} {i3 : Int32} {i4 : Int32} (G : mxG h)  (H : (vp_in ((69 + (6 * (mx_i h 382 4))) + (0 : Int32)) 769 ∧ (∀ h2, h2 = W_199 h (mx_i h 382 4) (0 : Int32) i1 → (vp_in ((69 + (6 * (mx_i h 382 4))) + (1 : Int32)) 769 ∧ (∀ h7, h7 = W_199 h2 (mx_i h 382 4) (1 : Int32) i2 → (vp_in ((69 + (6 * (mx_i h 382 4))) + (2 : Int32)) 769 ∧ (∀ h12, h12 = W_199 h7 (mx_i h 382 4) (2 : Int32) i3 → (vp_in ((69 + (6 * (mx_i h 382 4))) + (3 : Int32)) 769 ∧ (∀ h17, h17 = W_199 h12 (mx_i h 382 4) (3 : Int32) (0 : Int32) → (vp_in ((69 + (6 * (mx_i h 382 4))) + (4 : Int32)) 769 ∧ (∀ h22, h22 = W_199 h17 (mx_i h 382 4) (4 : Int32) i4 → (vp_in ((69 + (6 * (mx_i h 382 4))) + (5 : Int32)) 769 ∧ (∀ h27, h27 = W_199 h22 (mx_i h 382 4) (5 : Int32) (0 : Int32) → (∀ h31, h31 = mx_wi h27 382 4 ((mx_i h27 382 4) + 1) → Q (.inl none) h31)))))))))))))) : mx_wp (d + 1) 220 0 (mx_fr 220 [.ref 381, .int i1, .int i2, .int i3, .int i4]) [] h Q := by
  show mx_wp (d + 1) 220 0 [some (.ref 381), some (.int i1), some (.int i2), some (.int i3), some (.int i4), none] [] h Q
  refine wp_steps (i' := 9) (ls' := [some (.ref 381), some (.int i1), some (.int i2), some (.int i3), some (.int i4), some (.int (mx_i h 382 4))]) (st' := [.int i1, .int 0, .int (mx_i h 382 4), .ref 381]) (h' := h) (P := ((mxT 381).1 = 11 ∧ mxG h) ∧ (((mxT 382).1 = 50 ∧ mxG h) ∧ vp_in 4 (mxT 382).2) ∧ True) 9 rfl rfl ⟨⟨(congrArg Prod.fst sT_381), G⟩, (cA sT_382 G (vpl rfl)), trivial⟩ ?_
  obtain ⟨o1, H⟩ := H
  refine wp_call (b := false) (y' := 199) (as := [.ref 381, .int (mx_i h 382 4), .int 0, .int i1]) (rest := []) (P := ((mxT 381).1 = mxRc 199 ∧ mxG h)) rfl (by with_unfolding_all rfl) ⟨(congrArg Prod.fst sT_381), G⟩ (Nat.le_of_ble_eq_true rfl) (sp_199 G o1 ?_)
  show mx_wp (d + 1) 220 10 [some (.ref 381), some (.int i1), some (.int i2), some (.int i3), some (.int i4), some (.int (mx_i h 382 4))] [] (W_199 h (mx_i h 382 4) (0 : Int32) i1) Q
  obtain ⟨h2, e3⟩ : ∃ z9, z9 = W_199 h (mx_i h 382 4) (0 : Int32) i1 := ⟨_, rfl⟩
  rw [← e3]
  have H := H h2 e3
  have K5 : mxK h h2 := e3 ▸ KW_199
  have G4 : mxG h2 := mxK_G K5 G
  refine wp_steps (i' := 14) (ls' := [some (.ref 381), some (.int i1), some (.int i2), some (.int i3), some (.int i4), some (.int (mx_i h 382 4))]) (st' := [.int i2, .int 1, .int (mx_i h 382 4), .ref 381]) (h' := h2) (P := True) 4 rfl rfl trivial ?_
  obtain ⟨o6, H⟩ := H
  refine wp_call (b := false) (y' := 199) (as := [.ref 381, .int (mx_i h 382 4), .int 1, .int i2]) (rest := []) (P := ((mxT 381).1 = mxRc 199 ∧ mxG h2)) rfl (by with_unfolding_all rfl) ⟨(congrArg Prod.fst sT_381), G4⟩ (Nat.le_of_ble_eq_true rfl) (sp_199 G4 o6 ?_)
  show mx_wp (d + 1) 220 15 [some (.ref 381), some (.int i1), some (.int i2), some (.int i3), some (.int i4), some (.int (mx_i h 382 4))] [] (W_199 h2 (mx_i h 382 4) (1 : Int32) i2) Q
  obtain ⟨h7, e8⟩ : ∃ z9, z9 = W_199 h2 (mx_i h 382 4) (1 : Int32) i2 := ⟨_, rfl⟩
  rw [← e8]
  have H := H h7 e8
  have K10 : mxK h2 h7 := e8 ▸ KW_199
  have G9 : mxG h7 := mxK_G K10 G4
  refine wp_steps (i' := 19) (ls' := [some (.ref 381), some (.int i1), some (.int i2), some (.int i3), some (.int i4), some (.int (mx_i h 382 4))]) (st' := [.int i3, .int 2, .int (mx_i h 382 4), .ref 381]) (h' := h7) (P := True) 4 rfl rfl trivial ?_
  obtain ⟨o11, H⟩ := H
  refine wp_call (b := false) (y' := 199) (as := [.ref 381, .int (mx_i h 382 4), .int 2, .int i3]) (rest := []) (P := ((mxT 381).1 = mxRc 199 ∧ mxG h7)) rfl (by with_unfolding_all rfl) ⟨(congrArg Prod.fst sT_381), G9⟩ (Nat.le_of_ble_eq_true rfl) (sp_199 G9 o11 ?_)
  show mx_wp (d + 1) 220 20 [some (.ref 381), some (.int i1), some (.int i2), some (.int i3), some (.int i4), some (.int (mx_i h 382 4))] [] (W_199 h7 (mx_i h 382 4) (2 : Int32) i3) Q
  obtain ⟨h12, e13⟩ : ∃ z9, z9 = W_199 h7 (mx_i h 382 4) (2 : Int32) i3 := ⟨_, rfl⟩
  rw [← e13]
  have H := H h12 e13
  have K15 : mxK h7 h12 := e13 ▸ KW_199
  have G14 : mxG h12 := mxK_G K15 G9
  refine wp_steps (i' := 24) (ls' := [some (.ref 381), some (.int i1), some (.int i2), some (.int i3), some (.int i4), some (.int (mx_i h 382 4))]) (st' := [.int 0, .int 3, .int (mx_i h 382 4), .ref 381]) (h' := h12) (P := True) 4 rfl rfl trivial ?_
  obtain ⟨o16, H⟩ := H
  refine wp_call (b := false) (y' := 199) (as := [.ref 381, .int (mx_i h 382 4), .int 3, .int 0]) (rest := []) (P := ((mxT 381).1 = mxRc 199 ∧ mxG h12)) rfl (by with_unfolding_all rfl) ⟨(congrArg Prod.fst sT_381), G14⟩ (Nat.le_of_ble_eq_true rfl) (sp_199 G14 o16 ?_)
  show mx_wp (d + 1) 220 25 [some (.ref 381), some (.int i1), some (.int i2), some (.int i3), some (.int i4), some (.int (mx_i h 382 4))] [] (W_199 h12 (mx_i h 382 4) (3 : Int32) (0 : Int32)) Q
  obtain ⟨h17, e18⟩ : ∃ z9, z9 = W_199 h12 (mx_i h 382 4) (3 : Int32) (0 : Int32) := ⟨_, rfl⟩
  rw [← e18]
  have H := H h17 e18
  have K20 : mxK h12 h17 := e18 ▸ KW_199
  have G19 : mxG h17 := mxK_G K20 G14
  refine wp_steps (i' := 29) (ls' := [some (.ref 381), some (.int i1), some (.int i2), some (.int i3), some (.int i4), some (.int (mx_i h 382 4))]) (st' := [.int i4, .int 4, .int (mx_i h 382 4), .ref 381]) (h' := h17) (P := True) 4 rfl rfl trivial ?_
  obtain ⟨o21, H⟩ := H
  refine wp_call (b := false) (y' := 199) (as := [.ref 381, .int (mx_i h 382 4), .int 4, .int i4]) (rest := []) (P := ((mxT 381).1 = mxRc 199 ∧ mxG h17)) rfl (by with_unfolding_all rfl) ⟨(congrArg Prod.fst sT_381), G19⟩ (Nat.le_of_ble_eq_true rfl) (sp_199 G19 o21 ?_)
  show mx_wp (d + 1) 220 30 [some (.ref 381), some (.int i1), some (.int i2), some (.int i3), some (.int i4), some (.int (mx_i h 382 4))] [] (W_199 h17 (mx_i h 382 4) (4 : Int32) i4) Q
  obtain ⟨h22, e23⟩ : ∃ z9, z9 = W_199 h17 (mx_i h 382 4) (4 : Int32) i4 := ⟨_, rfl⟩
  rw [← e23]
  have H := H h22 e23
  have K25 : mxK h17 h22 := e23 ▸ KW_199
  have G24 : mxG h22 := mxK_G K25 G19
  refine wp_steps (i' := 34) (ls' := [some (.ref 381), some (.int i1), some (.int i2), some (.int i3), some (.int i4), some (.int (mx_i h 382 4))]) (st' := [.int 0, .int 5, .int (mx_i h 382 4), .ref 381]) (h' := h22) (P := True) 4 rfl rfl trivial ?_
  obtain ⟨o26, H⟩ := H
  refine wp_call (b := false) (y' := 199) (as := [.ref 381, .int (mx_i h 382 4), .int 5, .int 0]) (rest := []) (P := ((mxT 381).1 = mxRc 199 ∧ mxG h22)) rfl (by with_unfolding_all rfl) ⟨(congrArg Prod.fst sT_381), G24⟩ (Nat.le_of_ble_eq_true rfl) (sp_199 G24 o26 ?_)
  show mx_wp (d + 1) 220 35 [some (.ref 381), some (.int i1), some (.int i2), some (.int i3), some (.int i4), some (.int (mx_i h 382 4))] [] (W_199 h22 (mx_i h 382 4) (5 : Int32) (0 : Int32)) Q
  obtain ⟨h27, e28⟩ : ∃ z9, z9 = W_199 h22 (mx_i h 382 4) (5 : Int32) (0 : Int32) := ⟨_, rfl⟩
  rw [← e28]
  have H := H h27 e28
  have K30 : mxK h22 h27 := e28 ▸ KW_199
  have G29 : mxG h27 := mxK_G K30 G24
  refine wp_steps (i' := 43) (ls' := [some (.ref 381), some (.int i1), some (.int i2), some (.int i3), some (.int i4), some (.int (mx_i h 382 4))]) (st' := []) (h' := mx_wi h27 382 4 ((mx_i h27 382 4) + 1)) (P := ((mxT 381).1 = 11 ∧ mxG h27) ∧ (((mxT 382).1 = 50 ∧ mxG h27) ∧ vp_in 4 (mxT 382).2) ∧ (((mxT 382).1 = 50 ∧ mxG h27) ∧ vp_in 4 (mxT 382).2) ∧ True) 8 rfl rfl ⟨⟨(congrArg Prod.fst sT_381), G29⟩, (cA sT_382 G29 (vpl rfl)), (cA sT_382 G29 (vpl rfl)), trivial⟩ ?_
  obtain ⟨h31, e32⟩ : ∃ z9, z9 = mx_wi h27 382 4 ((mx_i h27 382 4) + 1) := ⟨_, rfl⟩
  rw [← e32]
  have H := H h31 e32
  have G33 : mxG h31 := e32 ▸ mxG_wi G29
  exact wp_end (o := .inl none) (h' := h31) (P := True) rfl rfl trivial H
def W_220 (h : mxH) (i1 : Int32) (i2 : Int32) (i3 : Int32) (i4 : Int32) : mxH := (mx_wi (W_199 (W_199 (W_199 (W_199 (W_199 (W_199 h (mx_i h 382 4) (0 : Int32) i1) (mx_i h 382 4) (1 : Int32) i2) (mx_i h 382 4) (2 : Int32) i3) (mx_i h 382 4) (3 : Int32) (0 : Int32)) (mx_i h 382 4) (4 : Int32) i4) (mx_i h 382 4) (5 : Int32) (0 : Int32)) 382 4 ((mx_i (W_199 (W_199 (W_199 (W_199 (W_199 (W_199 h (mx_i h 382 4) (0 : Int32) i1) (mx_i h 382 4) (1 : Int32) i2) (mx_i h 382 4) (2 : Int32) i3) (mx_i h 382 4) (3 : Int32) (0 : Int32)) (mx_i h 382 4) (4 : Int32) i4) (mx_i h 382 4) (5 : Int32) (0 : Int32)) 382 4) + 1))
theorem KW_220 {h : mxH} {i1 : Int32} {i2 : Int32} {i3 : Int32} {i4 : Int32} : mxK h (W_220 h i1 i2 i3 i4) := by
  unfold W_220
  repeat' (first | with_reducible exact mxK_rfl | with_reducible exact mxK_wi | with_reducible exact mxK_wrow | with_reducible refine mxK_ite ?_ ?_ | with_reducible refine mxK_tr ?_ mxK_wi | with_reducible refine mxK_tr ?_ mxK_wrow | with_reducible exact KW_199 | with_reducible refine mxK_tr ?_ KW_199)
theorem sp_220 {d : Nat} {h : mxH} {Q : mxO → mxH → Prop} {i1 : Int32} {i2 : Int32} {i3 : Int32} {i4 : Int32} (G : mxG h)  (x0 : vp_in ((69 + (6 * (mx_i h 382 4))) + (0 : Int32)) 769) (x1 : vp_in ((69 + (6 * (mx_i h 382 4))) + (1 : Int32)) 769) (x2 : vp_in ((69 + (6 * (mx_i h 382 4))) + (2 : Int32)) 769) (x3 : vp_in ((69 + (6 * (mx_i h 382 4))) + (3 : Int32)) 769) (x4 : vp_in ((69 + (6 * (mx_i h 382 4))) + (4 : Int32)) 769) (x5 : vp_in ((69 + (6 * (mx_i h 382 4))) + (5 : Int32)) 769) (k : Q (.inl none) (W_220 h i1 i2 i3 i4)) : mx_wp (d + 1) 220 0 (mx_fr 220 [.ref 381, .int i1, .int i2, .int i3, .int i4]) [] h Q := by
  unfold W_220 at k
  have hob : (vp_in ((69 + (6 * (mx_i h 382 4))) + (0 : Int32)) 769 ∧ (vp_in ((69 + (6 * (mx_i h 382 4))) + (1 : Int32)) 769 ∧ (vp_in ((69 + (6 * (mx_i h 382 4))) + (2 : Int32)) 769 ∧ (vp_in ((69 + (6 * (mx_i h 382 4))) + (3 : Int32)) 769 ∧ (vp_in ((69 + (6 * (mx_i h 382 4))) + (4 : Int32)) 769 ∧ (vp_in ((69 + (6 * (mx_i h 382 4))) + (5 : Int32)) 769 ∧ True)))))) := ⟨x0, ⟨x1, ⟨x2, ⟨x3, ⟨x4, ⟨x5, trivial⟩⟩⟩⟩⟩⟩
  refine tr_220_0 G  ?_
  obtain ⟨q0, hob⟩ := hob
  refine ⟨q0, ?_⟩
  intro h2 eh2
  subst eh2
  obtain ⟨q0, hob⟩ := hob
  refine ⟨q0, ?_⟩
  intro h7 eh7
  subst eh7
  obtain ⟨q0, hob⟩ := hob
  refine ⟨q0, ?_⟩
  intro h12 eh12
  subst eh12
  obtain ⟨q0, hob⟩ := hob
  refine ⟨q0, ?_⟩
  intro h17 eh17
  subst eh17
  obtain ⟨q0, hob⟩ := hob
  refine ⟨q0, ?_⟩
  intro h22 eh22
  subst eh22
  obtain ⟨q0, hob⟩ := hob
  refine ⟨q0, ?_⟩
  intro h27 eh27
  subst eh27
  intro h31 eh31
  subst eh31
  exact k
/-! 223: StoneBacksModel.begins()V -/
set_option maxRecDepth 8000 in
theorem tr_223_0 {d : Nat} {h : mxH} {Q : mxO → mxH → Prop}  (G : mxG h)  (H : (∀ h1, h1 = mx_wi h 381 12 (-1) → (∀ h4, h4 = mx_wi h1 381 9 (-1) → (∀ h7, h7 = mx_wi h4 381 10 (mx_i h4 381 8) → (∀ h10, h10 = mx_wi h7 381 8 0 → (∀ h13, h13 = mx_wi h10 381 11 0 → (∀ h16, h16 = mx_wi h13 381 13 0 → Q (.inl none) h16))))))) : mx_wp d 223 0 (mx_fr 223 [.ref 381]) [] h Q := by
  show mx_wp d 223 0 [some (.ref 381)] [] h Q
  refine wp_steps (i' := 3) (ls' := [some (.ref 381)]) (st' := []) (h' := mx_wi h 381 12 (-1)) (P := ((mxT 381).1 = 11 ∧ mxG h) ∧ True) 3 rfl rfl ⟨⟨(congrArg Prod.fst sT_381), G⟩, trivial⟩ ?_
  obtain ⟨h1, e2⟩ : ∃ z9, z9 = mx_wi h 381 12 (-1) := ⟨_, rfl⟩
  rw [← e2]
  have H := H h1 e2
  have G3 : mxG h1 := e2 ▸ mxG_wi G
  refine wp_steps (i' := 6) (ls' := [some (.ref 381)]) (st' := []) (h' := mx_wi h1 381 9 (-1)) (P := ((mxT 381).1 = 11 ∧ mxG h1) ∧ True) 3 rfl rfl ⟨⟨(congrArg Prod.fst sT_381), G3⟩, trivial⟩ ?_
  obtain ⟨h4, e5⟩ : ∃ z9, z9 = mx_wi h1 381 9 (-1) := ⟨_, rfl⟩
  rw [← e5]
  have H := H h4 e5
  have G6 : mxG h4 := e5 ▸ mxG_wi G3
  refine wp_steps (i' := 10) (ls' := [some (.ref 381)]) (st' := []) (h' := mx_wi h4 381 10 (mx_i h4 381 8)) (P := ((mxT 381).1 = 11 ∧ mxG h4) ∧ ((mxT 381).1 = 11 ∧ mxG h4) ∧ True) 4 rfl rfl ⟨⟨(congrArg Prod.fst sT_381), G6⟩, ⟨(congrArg Prod.fst sT_381), G6⟩, trivial⟩ ?_
  obtain ⟨h7, e8⟩ : ∃ z9, z9 = mx_wi h4 381 10 (mx_i h4 381 8) := ⟨_, rfl⟩
  rw [← e8]
  have H := H h7 e8
  have G9 : mxG h7 := e8 ▸ mxG_wi G6
  refine wp_steps (i' := 13) (ls' := [some (.ref 381)]) (st' := []) (h' := mx_wi h7 381 8 0) (P := ((mxT 381).1 = 11 ∧ mxG h7) ∧ True) 3 rfl rfl ⟨⟨(congrArg Prod.fst sT_381), G9⟩, trivial⟩ ?_
  obtain ⟨h10, e11⟩ : ∃ z9, z9 = mx_wi h7 381 8 0 := ⟨_, rfl⟩
  rw [← e11]
  have H := H h10 e11
  have G12 : mxG h10 := e11 ▸ mxG_wi G9
  refine wp_steps (i' := 16) (ls' := [some (.ref 381)]) (st' := []) (h' := mx_wi h10 381 11 0) (P := ((mxT 381).1 = 11 ∧ mxG h10) ∧ True) 3 rfl rfl ⟨⟨(congrArg Prod.fst sT_381), G12⟩, trivial⟩ ?_
  obtain ⟨h13, e14⟩ : ∃ z9, z9 = mx_wi h10 381 11 0 := ⟨_, rfl⟩
  rw [← e14]
  have H := H h13 e14
  have G15 : mxG h13 := e14 ▸ mxG_wi G12
  refine wp_steps (i' := 19) (ls' := [some (.ref 381)]) (st' := []) (h' := mx_wi h13 381 13 0) (P := ((mxT 381).1 = 11 ∧ mxG h13) ∧ True) 3 rfl rfl ⟨⟨(congrArg Prod.fst sT_381), G15⟩, trivial⟩ ?_
  obtain ⟨h16, e17⟩ : ∃ z9, z9 = mx_wi h13 381 13 0 := ⟨_, rfl⟩
  rw [← e17]
  have H := H h16 e17
  have G18 : mxG h16 := e17 ▸ mxG_wi G15
  exact wp_end (o := .inl none) (h' := h16) (P := True) rfl rfl trivial H
def W_223 (h : mxH) : mxH := (mx_wi (mx_wi (mx_wi (mx_wi (mx_wi (mx_wi h 381 12 (-1)) 381 9 (-1)) 381 10 (mx_i (mx_wi (mx_wi h 381 12 (-1)) 381 9 (-1)) 381 8)) 381 8 0) 381 11 0) 381 13 0)
theorem KW_223 {h : mxH} : mxK h (W_223 h) := by
  unfold W_223
  repeat' (first | with_reducible exact mxK_rfl | with_reducible exact mxK_wi | with_reducible exact mxK_wrow | with_reducible refine mxK_ite ?_ ?_ | with_reducible refine mxK_tr ?_ mxK_wi | with_reducible refine mxK_tr ?_ mxK_wrow)
theorem sp_223 {d : Nat} {h : mxH} {Q : mxO → mxH → Prop}  (G : mxG h)  (k : Q (.inl none) (W_223 h)) : mx_wp d 223 0 (mx_fr 223 [.ref 381]) [] h Q := by
  unfold W_223 at k
  refine tr_223_0 G  ?_
  intro h1 eh1
  subst eh1
  intro h4 eh4
  subst eh4
  intro h7 eh7
  subst eh7
  intro h10 eh10
  subst eh10
  intro h13 eh13
  subst eh13
  intro h16 eh16
  subst eh16
  exact k
/-! 225: StoneBacksModel.putsAside()V -/
def H_225_2 (d : Nat) (h : mxH) (i1 : Int32) (Q : mxO → mxH → Prop) : Prop := mx_wp d 225 2 [some (.ref 381), some (.int i1)] [] h Q
set_option maxRecDepth 8000 in
theorem tr_225_0 {d : Nat} {h : mxH} {Q : mxO → mxH → Prop}  (G : mxG h)  (H : H_225_2 d h 0 Q) : mx_wp d 225 0 (mx_fr 225 [.ref 381]) [] h Q := by
  show mx_wp d 225 0 [some (.ref 381), none] [] h Q
  refine wp_steps (i' := 2) (ls' := [some (.ref 381), some (.int 0)]) (st' := []) (h' := h) (P := True) 2 rfl rfl trivial ?_
  exact H 
set_option maxRecDepth 8000 in
theorem tr_225_2 {d : Nat} {h : mxH} {Q : mxO → mxH → Prop}  {i1 : Int32} (G : mxG h)  (H : ((i1 < 369 → (vp_in i1 769 ∧ vp_in i1 369 ∧ (∀ h4, h4 = mx_wi h 384 i1.toNatClampNeg (mx_i h 382 i1.toNatClampNeg) → H_225_2 d h4 (i1 + 1) Q))) ∧ (¬ i1 < 369 → Q (.inl none) h))) : H_225_2 d h i1 Q := by
  show mx_wp d 225 2 [some (.ref 381), some (.int i1)] [] h Q
  refine wp_steps (i' := 4) (ls' := [some (.ref 381), some (.int i1)]) (st' := [.int 369, .int i1]) (h' := h) (P := True) 2 rfl rfl trivial ?_
  refine wp_br (P := True) (c := 369 ≤ i1) (t := 15) (st' := []) rfl rfl trivial (fun c1 => ?_) (fun c1 => ?_)
  · have c1 := Int32.not_lt.mpr c1
    have H := H.2 c1
    exact wp_end (o := .inl none) (h' := h) (P := True) rfl rfl trivial H
  · have c1 := Int32.not_le.mp c1
    have H := H.1 c1
    obtain ⟨o2, o3, H⟩ := H
    refine wp_steps (i' := 13) (ls' := [some (.ref 381), some (.int i1)]) (st' := []) (h' := mx_wi h 384 i1.toNatClampNeg (mx_i h 382 i1.toNatClampNeg)) (P := ((mxT 381).1 = 11 ∧ mxG h) ∧ ((mxT 381).1 = 11 ∧ mxG h) ∧ (((mxT 382).1 = 50 ∧ mxG h) ∧ vp_in i1 (mxT 382).2) ∧ (((mxT 384).1 = 50 ∧ mxG h) ∧ vp_in i1 (mxT 384).2) ∧ True) 8 rfl rfl ⟨⟨(congrArg Prod.fst sT_381), G⟩, ⟨(congrArg Prod.fst sT_381), G⟩, (cA sT_382 G o2), (cA sT_384 G o3), trivial⟩ ?_
    obtain ⟨h4, e5⟩ : ∃ z9, z9 = mx_wi h 384 i1.toNatClampNeg (mx_i h 382 i1.toNatClampNeg) := ⟨_, rfl⟩
    rw [← e5]
    have H := H h4 e5
    have G6 : mxG h4 := e5 ▸ mxG_wi G
    refine wp_steps (i' := 14) (ls' := [some (.ref 381), some (.int (i1 + 1))]) (st' := []) (h' := h4) (P := True) 1 rfl rfl trivial ?_
    refine wp_J (j := 2) (st' := []) rfl rfl ?_
    exact H 
def F_225_2 (z : Nat) (s : mxH) : mxH := (mx_wi s 384 (nI z).toNatClampNeg (mx_i s 382 (nI z).toNatClampNeg))
theorem K_225_2 (z : Nat) (s : mxH) : mxK s (F_225_2 z s) := by
  unfold F_225_2
  (try simp only []); repeat' (first | with_reducible exact mxK_rfl | with_reducible exact mxK_wi | with_reducible exact mxK_wrow | with_reducible refine mxK_ite ?_ ?_ | with_reducible refine mxK_tr ?_ mxK_wi | with_reducible refine mxK_tr ?_ mxK_wrow)
theorem lp_225_2 {d : Nat} {Q : mxO → mxH → Prop} {s0 : mxH} {n : Nat} (z0 : Nat) (G : mxG s0)  (hB : ∀ z, z0 ≤ z → z ≤ n → (369 : Int32) = nI n) (hn : n < 2147483648) (hz : z0 ≤ n) (ob : ∀ z, z0 ≤ z → z < n → (vp_in (nI z) 769 ∧ vp_in (nI z) 369 ∧ True)) (k : Q (.inl none) (fz F_225_2 z0 n s0)) : H_225_2 d s0 (nI z0) Q := by
  have L : ∀ (j z : Nat), z0 ≤ z → z + j = n → H_225_2 d (fz F_225_2 z0 z s0) (nI z) Q := by
    intro j
    induction j with
    | zero =>
      intro z hz0 hzn
      have hzn : z = n := by omega
      subst hzn
      have Gz : mxG (fz F_225_2 z0 z s0) := mxK_G (mxK_fz (g := fun s => s) (fun z s => K_225_2 z s) z0 z s0) G
      have hBz := hB z hz0 (by omega)
      refine tr_225_2 Gz  ⟨fun c9 => absurd (hBz ▸ c9) Int32.lt_irrefl, fun c9 => k⟩
    | succ j ih =>
      intro z hz0 hzn
      have hih := ih (z + 1) (by omega) (by omega)
      rw [nI_succ, fz_s hz0] at hih
      have Gz : mxG (fz F_225_2 z0 z s0) := mxK_G (mxK_fz (g := fun s => s) (fun z s => K_225_2 z s) z0 z s0) G
      have hBz := hB z hz0 (by omega)
      have hob := ob z hz0 (by omega)
      refine tr_225_2 Gz  ⟨fun c9 => ?_, fun c9 => absurd (hBz.symm ▸ nI_lt (by omega) hn) c9⟩
      obtain ⟨q0, q1, hob⟩ := hob
      refine ⟨q0, q1, ?_⟩
      intro h4 eh4
      subst eh4
      exact hih
  have L0 := L (n - z0) z0 (Nat.le_refl _) (by omega)
  simp only [fz_0] at L0
  exact L0
def W_225 (h : mxH) : mxH := (fo F_225_2 369 h)
theorem KW_225 {h : mxH} : mxK h (W_225 h) := by
  unfold W_225
  repeat' (first | with_reducible exact mxK_rfl | with_reducible exact mxK_wi | with_reducible exact mxK_wrow | with_reducible refine mxK_ite ?_ ?_ | with_reducible refine mxK_tr ?_ mxK_wi | with_reducible refine mxK_tr ?_ mxK_wrow | exact mxK_fo (g := fun s => s) (fun z s => K_225_2 z s) _ _ | refine mxK_tr ?_ (mxK_fo (g := fun s => s) (fun z s => K_225_2 z s) _ _))
theorem sp_225 {d : Nat} {h : mxH} {Q : mxO → mxH → Prop}  (G : mxG h)  (k : Q (.inl none) (W_225 h)) : mx_wp d 225 0 (mx_fr 225 [.ref 381]) [] h Q := by
  unfold W_225 at k
  obtain ⟨n, hn, hB, hn2⟩ : ∃ n : Nat, n ≤ 369 ∧ (369 : Int32) = nI n ∧ n = 369 := ⟨369, Nat.le_refl _, rfl, rfl⟩
  rw [← hn2] at k
  refine tr_225_0 G  ?_
  refine lp_225_2 (s0 := h) 0 G  (fun _ _ _ => hB) (by omega) (Nat.zero_le _) (fun z _ hz => ⟨vp_in_nI (by omega) (by decide), vp_in_nI (by omega) (by decide), trivial⟩) ?_
  simp only [fz_fo]
  exact k
/-! 226: StoneBacksModel.comesBack()V -/
def H_226_2 (d : Nat) (h : mxH) (i1 : Int32) (Q : mxO → mxH → Prop) : Prop := mx_wp d 226 2 [some (.ref 381), some (.int i1)] [] h Q
set_option maxRecDepth 8000 in
theorem tr_226_0 {d : Nat} {h : mxH} {Q : mxO → mxH → Prop}  (G : mxG h)  (H : H_226_2 d h 0 Q) : mx_wp d 226 0 (mx_fr 226 [.ref 381]) [] h Q := by
  show mx_wp d 226 0 [some (.ref 381), none] [] h Q
  refine wp_steps (i' := 2) (ls' := [some (.ref 381), some (.int 0)]) (st' := []) (h' := h) (P := True) 2 rfl rfl trivial ?_
  exact H 
set_option maxRecDepth 8000 in
theorem tr_226_2 {d : Nat} {h : mxH} {Q : mxO → mxH → Prop}  {i1 : Int32} (G : mxG h)  (H : ((i1 < 369 → (vp_in i1 369 ∧ vp_in i1 769 ∧ (∀ h4, h4 = mx_wi h 382 i1.toNatClampNeg (mx_i h 384 i1.toNatClampNeg) → H_226_2 d h4 (i1 + 1) Q))) ∧ (¬ i1 < 369 → Q (.inl none) h))) : H_226_2 d h i1 Q := by
  show mx_wp d 226 2 [some (.ref 381), some (.int i1)] [] h Q
  refine wp_steps (i' := 4) (ls' := [some (.ref 381), some (.int i1)]) (st' := [.int 369, .int i1]) (h' := h) (P := True) 2 rfl rfl trivial ?_
  refine wp_br (P := True) (c := 369 ≤ i1) (t := 15) (st' := []) rfl rfl trivial (fun c1 => ?_) (fun c1 => ?_)
  · have c1 := Int32.not_lt.mpr c1
    have H := H.2 c1
    exact wp_end (o := .inl none) (h' := h) (P := True) rfl rfl trivial H
  · have c1 := Int32.not_le.mp c1
    have H := H.1 c1
    obtain ⟨o2, o3, H⟩ := H
    refine wp_steps (i' := 13) (ls' := [some (.ref 381), some (.int i1)]) (st' := []) (h' := mx_wi h 382 i1.toNatClampNeg (mx_i h 384 i1.toNatClampNeg)) (P := ((mxT 381).1 = 11 ∧ mxG h) ∧ ((mxT 381).1 = 11 ∧ mxG h) ∧ (((mxT 384).1 = 50 ∧ mxG h) ∧ vp_in i1 (mxT 384).2) ∧ (((mxT 382).1 = 50 ∧ mxG h) ∧ vp_in i1 (mxT 382).2) ∧ True) 8 rfl rfl ⟨⟨(congrArg Prod.fst sT_381), G⟩, ⟨(congrArg Prod.fst sT_381), G⟩, (cA sT_384 G o2), (cA sT_382 G o3), trivial⟩ ?_
    obtain ⟨h4, e5⟩ : ∃ z9, z9 = mx_wi h 382 i1.toNatClampNeg (mx_i h 384 i1.toNatClampNeg) := ⟨_, rfl⟩
    rw [← e5]
    have H := H h4 e5
    have G6 : mxG h4 := e5 ▸ mxG_wi G
    refine wp_steps (i' := 14) (ls' := [some (.ref 381), some (.int (i1 + 1))]) (st' := []) (h' := h4) (P := True) 1 rfl rfl trivial ?_
    refine wp_J (j := 2) (st' := []) rfl rfl ?_
    exact H 
def F_226_2 (z : Nat) (s : mxH) : mxH := (mx_wi s 382 (nI z).toNatClampNeg (mx_i s 384 (nI z).toNatClampNeg))
theorem K_226_2 (z : Nat) (s : mxH) : mxK s (F_226_2 z s) := by
  unfold F_226_2
  (try simp only []); repeat' (first | with_reducible exact mxK_rfl | with_reducible exact mxK_wi | with_reducible exact mxK_wrow | with_reducible refine mxK_ite ?_ ?_ | with_reducible refine mxK_tr ?_ mxK_wi | with_reducible refine mxK_tr ?_ mxK_wrow)
theorem lp_226_2 {d : Nat} {Q : mxO → mxH → Prop} {s0 : mxH} {n : Nat} (z0 : Nat) (G : mxG s0)  (hB : ∀ z, z0 ≤ z → z ≤ n → (369 : Int32) = nI n) (hn : n < 2147483648) (hz : z0 ≤ n) (ob : ∀ z, z0 ≤ z → z < n → (vp_in (nI z) 369 ∧ vp_in (nI z) 769 ∧ True)) (k : Q (.inl none) (fz F_226_2 z0 n s0)) : H_226_2 d s0 (nI z0) Q := by
  have L : ∀ (j z : Nat), z0 ≤ z → z + j = n → H_226_2 d (fz F_226_2 z0 z s0) (nI z) Q := by
    intro j
    induction j with
    | zero =>
      intro z hz0 hzn
      have hzn : z = n := by omega
      subst hzn
      have Gz : mxG (fz F_226_2 z0 z s0) := mxK_G (mxK_fz (g := fun s => s) (fun z s => K_226_2 z s) z0 z s0) G
      have hBz := hB z hz0 (by omega)
      refine tr_226_2 Gz  ⟨fun c9 => absurd (hBz ▸ c9) Int32.lt_irrefl, fun c9 => k⟩
    | succ j ih =>
      intro z hz0 hzn
      have hih := ih (z + 1) (by omega) (by omega)
      rw [nI_succ, fz_s hz0] at hih
      have Gz : mxG (fz F_226_2 z0 z s0) := mxK_G (mxK_fz (g := fun s => s) (fun z s => K_226_2 z s) z0 z s0) G
      have hBz := hB z hz0 (by omega)
      have hob := ob z hz0 (by omega)
      refine tr_226_2 Gz  ⟨fun c9 => ?_, fun c9 => absurd (hBz.symm ▸ nI_lt (by omega) hn) c9⟩
      obtain ⟨q0, q1, hob⟩ := hob
      refine ⟨q0, q1, ?_⟩
      intro h4 eh4
      subst eh4
      exact hih
  have L0 := L (n - z0) z0 (Nat.le_refl _) (by omega)
  simp only [fz_0] at L0
  exact L0
def W_226 (h : mxH) : mxH := (fo F_226_2 369 h)
theorem KW_226 {h : mxH} : mxK h (W_226 h) := by
  unfold W_226
  repeat' (first | with_reducible exact mxK_rfl | with_reducible exact mxK_wi | with_reducible exact mxK_wrow | with_reducible refine mxK_ite ?_ ?_ | with_reducible refine mxK_tr ?_ mxK_wi | with_reducible refine mxK_tr ?_ mxK_wrow | exact mxK_fo (g := fun s => s) (fun z s => K_226_2 z s) _ _ | refine mxK_tr ?_ (mxK_fo (g := fun s => s) (fun z s => K_226_2 z s) _ _))
theorem sp_226 {d : Nat} {h : mxH} {Q : mxO → mxH → Prop}  (G : mxG h)  (k : Q (.inl none) (W_226 h)) : mx_wp d 226 0 (mx_fr 226 [.ref 381]) [] h Q := by
  unfold W_226 at k
  obtain ⟨n, hn, hB, hn2⟩ : ∃ n : Nat, n ≤ 369 ∧ (369 : Int32) = nI n ∧ n = 369 := ⟨369, Nat.le_refl _, rfl, rfl⟩
  rw [← hn2] at k
  refine tr_226_0 G  ?_
  refine lp_226_2 (s0 := h) 0 G  (fun _ _ _ => hB) (by omega) (Nat.zero_le _) (fun z _ hz => ⟨vp_in_nI (by omega) (by decide), vp_in_nI (by omega) (by decide), trivial⟩) ?_
  simp only [fz_fo]
  exact k
/-! 236: StoneBacksModel.fault()I -/
set_option maxRecDepth 8000 in
theorem tr_236_0 {d : Nat} {h : mxH} {Q : mxO → mxH → Prop}  (G : mxG h)  (H : (∀ h1, h1 = mx_wi h 381 0 0 → Q (.inl (some (.int (mx_i h1 381 12)))) h1)) : mx_wp d 236 0 (mx_fr 236 [.ref 381]) [] h Q := by
  show mx_wp d 236 0 [some (.ref 381)] [] h Q
  refine wp_steps (i' := 3) (ls' := [some (.ref 381)]) (st' := []) (h' := mx_wi h 381 0 0) (P := ((mxT 381).1 = 11 ∧ mxG h) ∧ True) 3 rfl rfl ⟨⟨(congrArg Prod.fst sT_381), G⟩, trivial⟩ ?_
  obtain ⟨h1, e2⟩ : ∃ z9, z9 = mx_wi h 381 0 0 := ⟨_, rfl⟩
  rw [← e2]
  have H := H h1 e2
  have G3 : mxG h1 := e2 ▸ mxG_wi G
  refine wp_steps (i' := 5) (ls' := [some (.ref 381)]) (st' := [.int (mx_i h1 381 12)]) (h' := h1) (P := ((mxT 381).1 = 11 ∧ mxG h1) ∧ True) 2 rfl rfl ⟨⟨(congrArg Prod.fst sT_381), G3⟩, trivial⟩ ?_
  exact wp_end (o := .inl (some (.int (mx_i h1 381 12)))) (h' := h1) (P := True) rfl rfl trivial H
def V_236 (h : mxH) : Int32 := (mx_i (mx_wi h 381 0 0) 381 12)
def W_236 (h : mxH) : mxH := (mx_wi h 381 0 0)
theorem KW_236 {h : mxH} : mxK h (W_236 h) := by
  unfold W_236
  repeat' (first | with_reducible exact mxK_rfl | with_reducible exact mxK_wi | with_reducible exact mxK_wrow | with_reducible refine mxK_ite ?_ ?_ | with_reducible refine mxK_tr ?_ mxK_wi | with_reducible refine mxK_tr ?_ mxK_wrow)
theorem sp_236 {d : Nat} {h : mxH} {Q : mxO → mxH → Prop}  (G : mxG h)  (k : Q (.inl (some (.int (V_236 h)))) (W_236 h)) : mx_wp d 236 0 (mx_fr 236 [.ref 381]) [] h Q := by
  unfold V_236 W_236 at k
  refine tr_236_0 G  ?_
  intro h1 eh1
  subst eh1
  exact k
/-! 238: StoneBacksModel.draw(I)I -/
set_option maxRecDepth 8000 in
theorem tr_238_0 {d : Nat} {h : mxH} {Q : mxO → mxH → Prop} {i1 : Int32} (G : mxG h)  (H : (∀ h1, h1 = mx_wi h 382 8 ((1103515245 * (mx_i h 382 8)) + 12345) → (¬ i1 = 0 ∧ Q (.inl (some (.int ((((mx_i h1 382 8).toUInt32 >>> ((16 : Int32).toUInt32 &&& Int32.toUInt32 31)).toInt32 &&& 32767) - (((mx_i h1 382 8).toUInt32 >>> ((16 : Int32).toUInt32 &&& Int32.toUInt32 31)).toInt32 &&& 32767) / i1 * i1)))) h1))) : mx_wp d 238 0 (mx_fr 238 [.ref 381, .int i1]) [] h Q := by
  show mx_wp d 238 0 [some (.ref 381), some (.int i1)] [] h Q
  refine wp_steps (i' := 12) (ls' := [some (.ref 381), some (.int i1)]) (st' := []) (h' := mx_wi h 382 8 ((1103515245 * (mx_i h 382 8)) + 12345)) (P := ((mxT 381).1 = 11 ∧ mxG h) ∧ ((mxT 381).1 = 11 ∧ mxG h) ∧ (((mxT 382).1 = 50 ∧ mxG h) ∧ vp_in 8 (mxT 382).2) ∧ (((mxT 382).1 = 50 ∧ mxG h) ∧ vp_in 8 (mxT 382).2) ∧ True) 12 rfl rfl ⟨⟨(congrArg Prod.fst sT_381), G⟩, ⟨(congrArg Prod.fst sT_381), G⟩, (cA sT_382 G (vpl rfl)), (cA sT_382 G (vpl rfl)), trivial⟩ ?_
  obtain ⟨h1, e2⟩ : ∃ z9, z9 = mx_wi h 382 8 ((1103515245 * (mx_i h 382 8)) + 12345) := ⟨_, rfl⟩
  rw [← e2]
  have H := H h1 e2
  have G3 : mxG h1 := e2 ▸ mxG_wi G
  obtain ⟨o4, H⟩ := H
  refine wp_steps (i' := 22) (ls' := [some (.ref 381), some (.int i1)]) (st' := [.int ((((mx_i h1 382 8).toUInt32 >>> ((16 : Int32).toUInt32 &&& Int32.toUInt32 31)).toInt32 &&& 32767) - (((mx_i h1 382 8).toUInt32 >>> ((16 : Int32).toUInt32 &&& Int32.toUInt32 31)).toInt32 &&& 32767) / i1 * i1)]) (h' := h1) (P := ((mxT 381).1 = 11 ∧ mxG h1) ∧ (((mxT 382).1 = 50 ∧ mxG h1) ∧ vp_in 8 (mxT 382).2) ∧ (¬ i1 = 0) ∧ True) 10 rfl rfl ⟨⟨(congrArg Prod.fst sT_381), G3⟩, (cA sT_382 G3 (vpl rfl)), o4, trivial⟩ ?_
  exact wp_end (o := .inl (some (.int ((((mx_i h1 382 8).toUInt32 >>> ((16 : Int32).toUInt32 &&& Int32.toUInt32 31)).toInt32 &&& 32767) - (((mx_i h1 382 8).toUInt32 >>> ((16 : Int32).toUInt32 &&& Int32.toUInt32 31)).toInt32 &&& 32767) / i1 * i1)))) (h' := h1) (P := True) rfl rfl trivial H
def V_238 (h : mxH) (i1 : Int32) : Int32 := ((((mx_i (mx_wi h 382 8 ((1103515245 * (mx_i h 382 8)) + 12345)) 382 8).toUInt32 >>> ((16 : Int32).toUInt32 &&& Int32.toUInt32 31)).toInt32 &&& 32767) - (((mx_i (mx_wi h 382 8 ((1103515245 * (mx_i h 382 8)) + 12345)) 382 8).toUInt32 >>> ((16 : Int32).toUInt32 &&& Int32.toUInt32 31)).toInt32 &&& 32767) / i1 * i1)
def W_238 (h : mxH) (i1 : Int32) : mxH := (mx_wi h 382 8 ((1103515245 * (mx_i h 382 8)) + 12345))
theorem KW_238 {h : mxH} {i1 : Int32} : mxK h (W_238 h i1) := by
  unfold W_238
  repeat' (first | with_reducible exact mxK_rfl | with_reducible exact mxK_wi | with_reducible exact mxK_wrow | with_reducible refine mxK_ite ?_ ?_ | with_reducible refine mxK_tr ?_ mxK_wi | with_reducible refine mxK_tr ?_ mxK_wrow)
theorem sp_238 {d : Nat} {h : mxH} {Q : mxO → mxH → Prop} {i1 : Int32} (G : mxG h)  (x0 : ¬ i1 = 0) (k : Q (.inl (some (.int (V_238 h i1)))) (W_238 h i1)) : mx_wp d 238 0 (mx_fr 238 [.ref 381, .int i1]) [] h Q := by
  unfold V_238 W_238 at k
  have hob : (¬ i1 = 0 ∧ True) := ⟨x0, trivial⟩
  refine tr_238_0 G  ?_
  intro h1 eh1
  subst eh1
  obtain ⟨q0, hob⟩ := hob
  refine ⟨q0, ?_⟩
  exact k
/-! 239: StoneBacksModel.mayGo(III)Z -/
set_option maxRecDepth 8000 in
theorem tr_239_0 {d : Nat} {h : mxH} {Q : mxO → mxH → Prop} {i1 : Int32} {i2 : Int32} {i3 : Int32} (G : mxG h)  (H : (∀ (v1 : Int32), v1 = ((if (i2 + i3) = 11 then (if (mx_i h 382 6) < i1 then 0 else 1) else 1) : Int32) → Q (.inl (some (.int v1))) h)) : mx_wp d 239 0 (mx_fr 239 [.ref 381, .int i1, .int i2, .int i3]) [] h Q := by
  show mx_wp d 239 0 [some (.ref 381), some (.int i1), some (.int i2), some (.int i3)] [] h Q
  refine wp_steps (i' := 4) (ls' := [some (.ref 381), some (.int i1), some (.int i2), some (.int i3)]) (st' := [.int 11, .int (i2 + i3)]) (h' := h) (P := True) 4 rfl rfl trivial ?_
  have J : ∀ (v1 : Int32) (ev1 : v1 = ((if (i2 + i3) = 11 then (if (mx_i h 382 6) < i1 then 0 else 1) else 1) : Int32)), mx_wp d 239 14 [some (.ref 381), some (.int i1), some (.int i2), some (.int i3)] [.int v1] h Q := by
    intro v1 ev1
    have H := H v1 ev1
    exact wp_end (o := .inl (some (.int v1))) (h' := h) (P := (v1 = 0 ∨ v1 = 1)) rfl rfl (b01 ev1 (by repeat' (first | exact Or.inl rfl | exact Or.inr rfl | split))) H
  refine wp_br (P := True) (c := ¬ (i2 + i3) = 11) (t := 11) (st' := []) rfl rfl trivial (fun c2 => ?_) (fun c2 => ?_)
  · skip
    refine wp_steps (i' := 12) (ls' := [some (.ref 381), some (.int i1), some (.int i2), some (.int i3)]) (st' := [.int 1]) (h' := h) (P := True) 1 rfl rfl trivial ?_
    refine wp_J (j := 14) (st' := [.int 1]) rfl rfl ?_
    exact J _ (by rw [if_neg c2])
  · have c2 := Decidable.of_not_not c2
    refine wp_steps (i' := 10) (ls' := [some (.ref 381), some (.int i1), some (.int i2), some (.int i3)]) (st' := [.int (mx_i h 382 6), .int i1]) (h' := h) (P := ((mxT 381).1 = 11 ∧ mxG h) ∧ (((mxT 382).1 = 50 ∧ mxG h) ∧ vp_in 6 (mxT 382).2) ∧ True) 5 rfl rfl ⟨⟨(congrArg Prod.fst sT_381), G⟩, (cA sT_382 G (vpl rfl)), trivial⟩ ?_
    refine wp_br (P := True) (c := (mx_i h 382 6) < i1) (t := 13) (st' := []) rfl rfl trivial (fun c3 => ?_) (fun c3 => ?_)
    · skip
      refine wp_steps (i' := 14) (ls' := [some (.ref 381), some (.int i1), some (.int i2), some (.int i3)]) (st' := [.int 0]) (h' := h) (P := True) 1 rfl rfl trivial ?_
      exact J _ (by rw [if_pos c2, if_pos c3])
    · skip
      refine wp_steps (i' := 12) (ls' := [some (.ref 381), some (.int i1), some (.int i2), some (.int i3)]) (st' := [.int 1]) (h' := h) (P := True) 1 rfl rfl trivial ?_
      refine wp_J (j := 14) (st' := [.int 1]) rfl rfl ?_
      exact J _ (by rw [if_pos c2, if_neg c3])
def V_239 (r : Nat → Int32) (i1 : Int32) (i2 : Int32) (i3 : Int32) : Int32 := ((if (i2 + i3) = 11 then (if (r 6) < i1 then 0 else 1) else 1) : Int32)
theorem sp_239 {d : Nat} {h : mxH} {Q : mxO → mxH → Prop} {i1 : Int32} {i2 : Int32} {i3 : Int32} (G : mxG h)  (k : Q (.inl (some (.int (V_239 (mx_i h 382) i1 i2 i3)))) h) : mx_wp d 239 0 (mx_fr 239 [.ref 381, .int i1, .int i2, .int i3]) [] h Q := by
  unfold V_239 at k
  refine tr_239_0 G  ?_
  intro v1 ev1
  subst ev1
  exact k
/-! 242: StoneBacksModel.dawns()V -/
def H_242_2 (d : Nat) (h : mxH) (i1 : Int32) (Q : mxO → mxH → Prop) : Prop := mx_wp d 242 2 [some (.ref 381), some (.int i1)] [] h Q
def H_242_30 (d : Nat) (h : mxH) (i1 : Int32) (Q : mxO → mxH → Prop) : Prop := mx_wp d 242 30 [some (.ref 381), some (.int i1)] [] h Q
set_option maxRecDepth 8000 in
theorem tr_242_0 {d : Nat} {h : mxH} {Q : mxO → mxH → Prop}  (G : mxG h)  (H : H_242_2 (d + 1) h 0 Q) : mx_wp (d + 1) 242 0 (mx_fr 242 [.ref 381]) [] h Q := by
  show mx_wp (d + 1) 242 0 [some (.ref 381), none] [] h Q
  refine wp_steps (i' := 2) (ls' := [some (.ref 381), some (.int 0)]) (st' := []) (h' := h) (P := True) 2 rfl rfl trivial ?_
  exact H 
set_option maxRecDepth 8000 in
theorem tr_242_2 {d : Nat} {h : mxH} {Q : mxO → mxH → Prop}  {i1 : Int32} (G : mxG h)  (H : ((i1 < (mx_i h 382 4) → (vp_in ((69 + (6 * i1)) + (3 : Int32)) 769 ∧ (((V_198 (mx_i h 382) i1 (3 : Int32)) < 2 → (vp_in ((69 + (6 * i1)) + (2 : Int32)) 769 ∧ (∀ h5, h5 = W_199 h i1 (2 : Int32) (V_192 (mx_i h 382) (40 : Int32) ((V_198 (mx_i h 382) i1 (2 : Int32)) + 1)) → H_242_2 (d + 1) h5 (i1 + 1) Q))) ∧ (¬ (V_198 (mx_i h 382) i1 (3 : Int32)) < 2 → H_242_2 (d + 1) h (i1 + 1) Q)))) ∧ (¬ i1 < (mx_i h 382 4) → H_242_30 (d + 1) h 0 Q))) : H_242_2 (d + 1) h i1 Q := by
  show mx_wp (d + 1) 242 2 [some (.ref 381), some (.int i1)] [] h Q
  refine wp_steps (i' := 7) (ls' := [some (.ref 381), some (.int i1)]) (st' := [.int (mx_i h 382 4), .int i1]) (h' := h) (P := ((mxT 381).1 = 11 ∧ mxG h) ∧ (((mxT 382).1 = 50 ∧ mxG h) ∧ vp_in 4 (mxT 382).2) ∧ True) 5 rfl rfl ⟨⟨(congrArg Prod.fst sT_381), G⟩, (cA sT_382 G (vpl rfl)), trivial⟩ ?_
  refine wp_br (P := True) (c := (mx_i h 382 4) ≤ i1) (t := 28) (st' := []) rfl rfl trivial (fun c1 => ?_) (fun c1 => ?_)
  · have c1 := Int32.not_lt.mpr c1
    have H := H.2 c1
    refine wp_steps (i' := 30) (ls' := [some (.ref 381), some (.int 0)]) (st' := []) (h' := h) (P := True) 2 rfl rfl trivial ?_
    exact H 
  · have c1 := Int32.not_le.mp c1
    have H := H.1 c1
    refine wp_steps (i' := 11) (ls' := [some (.ref 381), some (.int i1)]) (st' := [.int 3, .int i1, .ref 381]) (h' := h) (P := True) 3 rfl rfl trivial ?_
    obtain ⟨o2, H⟩ := H
    refine wp_call (b := false) (y' := 198) (as := [.ref 381, .int i1, .int 3]) (rest := []) (P := ((mxT 381).1 = mxRc 198 ∧ mxG h)) rfl (by with_unfolding_all rfl) ⟨(congrArg Prod.fst sT_381), G⟩ (Nat.le_of_ble_eq_true rfl) (sp_198 G o2 ?_)
    show mx_wp (d + 1) 242 12 [some (.ref 381), some (.int i1)] [.int (V_198 (mx_i h 382) i1 (3 : Int32))] h Q
    refine wp_steps (i' := 13) (ls' := [some (.ref 381), some (.int i1)]) (st' := [.int 2, .int (V_198 (mx_i h 382) i1 (3 : Int32))]) (h' := h) (P := True) 1 rfl rfl trivial ?_
    refine wp_br (P := True) (c := 2 ≤ (V_198 (mx_i h 382) i1 (3 : Int32))) (t := 26) (st' := []) rfl rfl trivial (fun c3 => ?_) (fun c3 => ?_)
    · have c3 := Int32.not_lt.mpr c3
      have H := H.2 c3
      refine wp_steps (i' := 27) (ls' := [some (.ref 381), some (.int (i1 + 1))]) (st' := []) (h' := h) (P := True) 1 rfl rfl trivial ?_
      refine wp_J (j := 2) (st' := []) rfl rfl ?_
      exact H 
    · have c3 := Int32.not_le.mp c3
      have H := H.1 c3
      refine wp_steps (i' := 21) (ls' := [some (.ref 381), some (.int i1)]) (st' := [.int 2, .int i1, .ref 381, .int 40, .int 2, .int i1, .ref 381]) (h' := h) (P := True) 7 rfl rfl trivial ?_
      obtain ⟨o4, H⟩ := H
      refine wp_call (b := false) (y' := 198) (as := [.ref 381, .int i1, .int 2]) (rest := [.int 40, .int 2, .int i1, .ref 381]) (P := ((mxT 381).1 = mxRc 198 ∧ mxG h)) rfl (by with_unfolding_all rfl) ⟨(congrArg Prod.fst sT_381), G⟩ (Nat.le_of_ble_eq_true rfl) (sp_198 G o4 ?_)
      show mx_wp (d + 1) 242 22 [some (.ref 381), some (.int i1)] [.int (V_198 (mx_i h 382) i1 (2 : Int32)), .int 40, .int 2, .int i1, .ref 381] h Q
      refine wp_steps (i' := 24) (ls' := [some (.ref 381), some (.int i1)]) (st' := [.int ((V_198 (mx_i h 382) i1 (2 : Int32)) + 1), .int 40, .int 2, .int i1, .ref 381]) (h' := h) (P := True) 2 rfl rfl trivial ?_
      refine wp_call (b := false) (y' := 192) (as := [.int 40, .int ((V_198 (mx_i h 382) i1 (2 : Int32)) + 1)]) (rest := [.int 2, .int i1, .ref 381]) (P := True) rfl (by with_unfolding_all rfl) trivial (Nat.le_of_ble_eq_true rfl) (sp_192 G ?_)
      show mx_wp (d + 1) 242 25 [some (.ref 381), some (.int i1)] [.int (V_192 (mx_i h 382) (40 : Int32) ((V_198 (mx_i h 382) i1 (2 : Int32)) + 1)), .int 2, .int i1, .ref 381] h Q
      refine wp_call (b := false) (y' := 199) (as := [.ref 381, .int i1, .int 2, .int (V_192 (mx_i h 382) (40 : Int32) ((V_198 (mx_i h 382) i1 (2 : Int32)) + 1))]) (rest := []) (P := ((mxT 381).1 = mxRc 199 ∧ mxG h)) rfl (by with_unfolding_all rfl) ⟨(congrArg Prod.fst sT_381), G⟩ (Nat.le_of_ble_eq_true rfl) (sp_199 G o4 ?_)
      show mx_wp (d + 1) 242 26 [some (.ref 381), some (.int i1)] [] (W_199 h i1 (2 : Int32) (V_192 (mx_i h 382) (40 : Int32) ((V_198 (mx_i h 382) i1 (2 : Int32)) + 1))) Q
      obtain ⟨h5, e6⟩ : ∃ z9, z9 = W_199 h i1 (2 : Int32) (V_192 (mx_i h 382) (40 : Int32) ((V_198 (mx_i h 382) i1 (2 : Int32)) + 1)) := ⟨_, rfl⟩
      rw [← e6]
      have H := H h5 e6
      have K8 : mxK h h5 := e6 ▸ KW_199
      have G7 : mxG h5 := mxK_G K8 G
      refine wp_steps (i' := 27) (ls' := [some (.ref 381), some (.int (i1 + 1))]) (st' := []) (h' := h5) (P := True) 1 rfl rfl trivial ?_
      refine wp_J (j := 2) (st' := []) rfl rfl ?_
      exact H 
set_option maxRecDepth 8000 in
theorem tr_242_30 {d : Nat} {h : mxH} {Q : mxO → mxH → Prop}  {i1 : Int32} (G : mxG h)  (H : ((i1 < (mx_i h 382 3) → (vp_in ((33 + (6 * i1)) + (4 : Int32)) 769 ∧ (∀ h3, h3 = W_197 h i1 (4 : Int32) ((V_196 (mx_i h 382) i1 (4 : Int32)) / 2) → H_242_30 (d + 1) h3 (i1 + 1) Q))) ∧ (¬ i1 < (mx_i h 382 3) → Q (.inl none) h))) : H_242_30 (d + 1) h i1 Q := by
  show mx_wp (d + 1) 242 30 [some (.ref 381), some (.int i1)] [] h Q
  refine wp_steps (i' := 35) (ls' := [some (.ref 381), some (.int i1)]) (st' := [.int (mx_i h 382 3), .int i1]) (h' := h) (P := ((mxT 381).1 = 11 ∧ mxG h) ∧ (((mxT 382).1 = 50 ∧ mxG h) ∧ vp_in 3 (mxT 382).2) ∧ True) 5 rfl rfl ⟨⟨(congrArg Prod.fst sT_381), G⟩, (cA sT_382 G (vpl rfl)), trivial⟩ ?_
  refine wp_br (P := True) (c := (mx_i h 382 3) ≤ i1) (t := 48) (st' := []) rfl rfl trivial (fun c1 => ?_) (fun c1 => ?_)
  · have c1 := Int32.not_lt.mpr c1
    have H := H.2 c1
    exact wp_end (o := .inl none) (h' := h) (P := True) rfl rfl trivial H
  · have c1 := Int32.not_le.mp c1
    have H := H.1 c1
    refine wp_steps (i' := 42) (ls' := [some (.ref 381), some (.int i1)]) (st' := [.int 4, .int i1, .ref 381, .int 4, .int i1, .ref 381]) (h' := h) (P := True) 6 rfl rfl trivial ?_
    obtain ⟨o2, H⟩ := H
    refine wp_call (b := false) (y' := 196) (as := [.ref 381, .int i1, .int 4]) (rest := [.int 4, .int i1, .ref 381]) (P := ((mxT 381).1 = mxRc 196 ∧ mxG h)) rfl (by with_unfolding_all rfl) ⟨(congrArg Prod.fst sT_381), G⟩ (Nat.le_of_ble_eq_true rfl) (sp_196 G o2 ?_)
    show mx_wp (d + 1) 242 43 [some (.ref 381), some (.int i1)] [.int (V_196 (mx_i h 382) i1 (4 : Int32)), .int 4, .int i1, .ref 381] h Q
    refine wp_steps (i' := 45) (ls' := [some (.ref 381), some (.int i1)]) (st' := [.int ((V_196 (mx_i h 382) i1 (4 : Int32)) / 2), .int 4, .int i1, .ref 381]) (h' := h) (P := (¬ (2 : Int32) = 0) ∧ True) 2 rfl rfl ⟨(by decide), trivial⟩ ?_
    refine wp_call (b := false) (y' := 197) (as := [.ref 381, .int i1, .int 4, .int ((V_196 (mx_i h 382) i1 (4 : Int32)) / 2)]) (rest := []) (P := ((mxT 381).1 = mxRc 197 ∧ mxG h)) rfl (by with_unfolding_all rfl) ⟨(congrArg Prod.fst sT_381), G⟩ (Nat.le_of_ble_eq_true rfl) (sp_197 G o2 ?_)
    show mx_wp (d + 1) 242 46 [some (.ref 381), some (.int i1)] [] (W_197 h i1 (4 : Int32) ((V_196 (mx_i h 382) i1 (4 : Int32)) / 2)) Q
    obtain ⟨h3, e4⟩ : ∃ z9, z9 = W_197 h i1 (4 : Int32) ((V_196 (mx_i h 382) i1 (4 : Int32)) / 2) := ⟨_, rfl⟩
    rw [← e4]
    have H := H h3 e4
    have K6 : mxK h h3 := e4 ▸ KW_197
    have G5 : mxG h3 := mxK_G K6 G
    refine wp_steps (i' := 47) (ls' := [some (.ref 381), some (.int (i1 + 1))]) (st' := []) (h' := h3) (P := True) 1 rfl rfl trivial ?_
    refine wp_J (j := 30) (st' := []) rfl rfl ?_
    exact H 
def F_242_2 (z : Nat) (s : mxH) : mxH := (if (V_198 (mx_i s 382) (nI z) (3 : Int32)) < 2 then (W_199 s (nI z) (2 : Int32) (V_192 (mx_i s 382) (40 : Int32) ((V_198 (mx_i s 382) (nI z) (2 : Int32)) + 1))) else s)
theorem K_242_2 (z : Nat) (s : mxH) : mxK s (F_242_2 z s) := by
  unfold F_242_2
  (try simp only []); repeat' (first | with_reducible exact mxK_rfl | with_reducible exact mxK_wi | with_reducible exact mxK_wrow | with_reducible refine mxK_ite ?_ ?_ | with_reducible refine mxK_tr ?_ mxK_wi | with_reducible refine mxK_tr ?_ mxK_wrow | with_reducible exact KW_199 | with_reducible refine mxK_tr ?_ KW_199)
theorem lp_242_2 {d : Nat} {Q : mxO → mxH → Prop} {s0 : mxH} {n : Nat} (z0 : Nat) (G : mxG s0)  (hB : ∀ z, z0 ≤ z → z ≤ n → (mx_i (fz F_242_2 z0 z s0) 382 4) = nI n) (hn : n < 2147483648) (hz : z0 ≤ n) (ob : ∀ z, z0 ≤ z → z < n → (vp_in ((69 + (6 * (nI z))) + (3 : Int32)) 769 ∧ (((V_198 (mx_i (fz F_242_2 z0 z s0) 382) (nI z) (3 : Int32)) < 2 → (vp_in ((69 + (6 * (nI z))) + (2 : Int32)) 769 ∧ True)) ∧ (¬ (V_198 (mx_i (fz F_242_2 z0 z s0) 382) (nI z) (3 : Int32)) < 2 → True)))) (k : H_242_30 (d + 1) (fz F_242_2 z0 n s0) 0 Q) : H_242_2 (d + 1) s0 (nI z0) Q := by
  have L : ∀ (j z : Nat), z0 ≤ z → z + j = n → H_242_2 (d + 1) (fz F_242_2 z0 z s0) (nI z) Q := by
    intro j
    induction j with
    | zero =>
      intro z hz0 hzn
      have hzn : z = n := by omega
      subst hzn
      have Gz : mxG (fz F_242_2 z0 z s0) := mxK_G (mxK_fz (g := fun s => s) (fun z s => K_242_2 z s) z0 z s0) G
      have hBz := hB z hz0 (by omega)
      refine tr_242_2 Gz  ⟨fun c9 => absurd (hBz ▸ c9) Int32.lt_irrefl, fun c9 => k⟩
    | succ j ih =>
      intro z hz0 hzn
      have hih := ih (z + 1) (by omega) (by omega)
      rw [nI_succ, fz_s hz0] at hih
      have Gz : mxG (fz F_242_2 z0 z s0) := mxK_G (mxK_fz (g := fun s => s) (fun z s => K_242_2 z s) z0 z s0) G
      have hBz := hB z hz0 (by omega)
      have hob := ob z hz0 (by omega)
      refine tr_242_2 Gz  ⟨fun c9 => ?_, fun c9 => absurd (hBz.symm ▸ nI_lt (by omega) hn) c9⟩
      generalize (fz F_242_2 z0 z s0) = s at hih hob hBz Gz ⊢
      unfold F_242_2 at hih
      (try simp only [] at hih)
      obtain ⟨q0, hob⟩ := hob
      refine ⟨q0, ?_⟩
      refine ⟨fun c9 => ?_, fun c9 => ?_⟩
      · try simp only [if_pos c9] at hih
        have hob := hob.1 c9
        obtain ⟨q0, hob⟩ := hob
        refine ⟨q0, ?_⟩
        intro h5 eh5
        subst eh5
        exact hih
      · try simp only [if_neg c9] at hih
        have hob := hob.2 c9
        exact hih
  have L0 := L (n - z0) z0 (Nat.le_refl _) (by omega)
  simp only [fz_0] at L0
  exact L0
def F_242_30 (z : Nat) (s : mxH) : mxH := (W_197 s (nI z) (4 : Int32) ((V_196 (mx_i s 382) (nI z) (4 : Int32)) / 2))
theorem K_242_30 (z : Nat) (s : mxH) : mxK s (F_242_30 z s) := by
  unfold F_242_30
  (try simp only []); repeat' (first | with_reducible exact mxK_rfl | with_reducible exact mxK_wi | with_reducible exact mxK_wrow | with_reducible refine mxK_ite ?_ ?_ | with_reducible refine mxK_tr ?_ mxK_wi | with_reducible refine mxK_tr ?_ mxK_wrow | with_reducible exact KW_197 | with_reducible refine mxK_tr ?_ KW_197)
theorem lp_242_30 {d : Nat} {Q : mxO → mxH → Prop} {s0 : mxH} {n : Nat} (z0 : Nat) (G : mxG s0)  (hB : ∀ z, z0 ≤ z → z ≤ n → (mx_i (fz F_242_30 z0 z s0) 382 3) = nI n) (hn : n < 2147483648) (hz : z0 ≤ n) (ob : ∀ z, z0 ≤ z → z < n → (vp_in ((33 + (6 * (nI z))) + (4 : Int32)) 769 ∧ True)) (k : Q (.inl none) (fz F_242_30 z0 n s0)) : H_242_30 (d + 1) s0 (nI z0) Q := by
  have L : ∀ (j z : Nat), z0 ≤ z → z + j = n → H_242_30 (d + 1) (fz F_242_30 z0 z s0) (nI z) Q := by
    intro j
    induction j with
    | zero =>
      intro z hz0 hzn
      have hzn : z = n := by omega
      subst hzn
      have Gz : mxG (fz F_242_30 z0 z s0) := mxK_G (mxK_fz (g := fun s => s) (fun z s => K_242_30 z s) z0 z s0) G
      have hBz := hB z hz0 (by omega)
      refine tr_242_30 Gz  ⟨fun c9 => absurd (hBz ▸ c9) Int32.lt_irrefl, fun c9 => k⟩
    | succ j ih =>
      intro z hz0 hzn
      have hih := ih (z + 1) (by omega) (by omega)
      rw [nI_succ, fz_s hz0] at hih
      have Gz : mxG (fz F_242_30 z0 z s0) := mxK_G (mxK_fz (g := fun s => s) (fun z s => K_242_30 z s) z0 z s0) G
      have hBz := hB z hz0 (by omega)
      have hob := ob z hz0 (by omega)
      refine tr_242_30 Gz  ⟨fun c9 => ?_, fun c9 => absurd (hBz.symm ▸ nI_lt (by omega) hn) c9⟩
      obtain ⟨q0, hob⟩ := hob
      refine ⟨q0, ?_⟩
      intro h3 eh3
      subst eh3
      exact hih
  have L0 := L (n - z0) z0 (Nat.le_refl _) (by omega)
  simp only [fz_0] at L0
  exact L0
/-! 243: StoneBacksModel.owed(II)I -/
def H_243_4 (d : Nat) (h : mxH) (i1 : Int32) (i2 : Int32) (i3 : Int32) (i4 : Int32) (Q : mxO → mxH → Prop) : Prop := mx_wp d 243 4 [some (.ref 381), some (.int i1), some (.int i2), some (.int i3), some (.int i4)] [] h Q
set_option maxRecDepth 8000 in
theorem tr_243_0 {d : Nat} {h : mxH} {Q : mxO → mxH → Prop} {i1 : Int32} {i2 : Int32} (G : mxG h)  (H : H_243_4 (d + 1) h i1 i2 0 0 Q) : mx_wp (d + 1) 243 0 (mx_fr 243 [.ref 381, .int i1, .int i2]) [] h Q := by
  show mx_wp (d + 1) 243 0 [some (.ref 381), some (.int i1), some (.int i2), none, none] [] h Q
  refine wp_steps (i' := 4) (ls' := [some (.ref 381), some (.int i1), some (.int i2), some (.int 0), some (.int 0)]) (st' := []) (h' := h) (P := True) 4 rfl rfl trivial ?_
  exact H 
set_option maxRecDepth 8000 in
theorem tr_243_4 {d : Nat} {h : mxH} {Q : mxO → mxH → Prop}  {i1 : Int32} {i2 : Int32} {i3 : Int32} {i4 : Int32} (G : mxG h)  (H : ((i4 < (mx_i h 382 4) → (vp_in ((69 + (6 * i4)) + (3 : Int32)) 769 ∧ ((((V_198 (mx_i h 382) i4 (3 : Int32)) < 2 → (vp_in ((69 + (6 * i4)) + i2) 769 ∧ True)) ∧ (¬ (V_198 (mx_i h 382) i4 (3 : Int32)) < 2 → True)) ∧ (∀ (v3 : Int32), v3 = ((if (V_198 (mx_i h 382) i4 (3 : Int32)) < 2 then (if (V_198 (mx_i h 382) i4 i2) = i1 then ((1 : Int32) <<< (i4 &&& 31)) else 0) else 0) : Int32) → H_243_4 (d + 1) h i1 i2 (i3 ||| v3) (i4 + 1) Q)))) ∧ (¬ i4 < (mx_i h 382 4) → Q (.inl (some (.int i3))) h))) : H_243_4 (d + 1) h i1 i2 i3 i4 Q := by
  show mx_wp (d + 1) 243 4 [some (.ref 381), some (.int i1), some (.int i2), some (.int i3), some (.int i4)] [] h Q
  refine wp_steps (i' := 9) (ls' := [some (.ref 381), some (.int i1), some (.int i2), some (.int i3), some (.int i4)]) (st' := [.int (mx_i h 382 4), .int i4]) (h' := h) (P := ((mxT 381).1 = 11 ∧ mxG h) ∧ (((mxT 382).1 = 50 ∧ mxG h) ∧ vp_in 4 (mxT 382).2) ∧ True) 5 rfl rfl ⟨⟨(congrArg Prod.fst sT_381), G⟩, (cA sT_382 G (vpl rfl)), trivial⟩ ?_
  refine wp_br (P := True) (c := (mx_i h 382 4) ≤ i4) (t := 32) (st' := []) rfl rfl trivial (fun c1 => ?_) (fun c1 => ?_)
  · have c1 := Int32.not_lt.mpr c1
    have H := H.2 c1
    refine wp_steps (i' := 33) (ls' := [some (.ref 381), some (.int i1), some (.int i2), some (.int i3), some (.int i4)]) (st' := [.int i3]) (h' := h) (P := True) 1 rfl rfl trivial ?_
    exact wp_end (o := .inl (some (.int i3))) (h' := h) (P := True) rfl rfl trivial H
  · have c1 := Int32.not_le.mp c1
    have H := H.1 c1
    refine wp_steps (i' := 14) (ls' := [some (.ref 381), some (.int i1), some (.int i2), some (.int i3), some (.int i4)]) (st' := [.int 3, .int i4, .ref 381, .int i3]) (h' := h) (P := True) 4 rfl rfl trivial ?_
    obtain ⟨o2, H⟩ := H
    refine wp_call (b := false) (y' := 198) (as := [.ref 381, .int i4, .int 3]) (rest := [.int i3]) (P := ((mxT 381).1 = mxRc 198 ∧ mxG h)) rfl (by with_unfolding_all rfl) ⟨(congrArg Prod.fst sT_381), G⟩ (Nat.le_of_ble_eq_true rfl) (sp_198 G o2 ?_)
    show mx_wp (d + 1) 243 15 [some (.ref 381), some (.int i1), some (.int i2), some (.int i3), some (.int i4)] [.int (V_198 (mx_i h 382) i4 (3 : Int32)), .int i3] h Q
    refine wp_steps (i' := 16) (ls' := [some (.ref 381), some (.int i1), some (.int i2), some (.int i3), some (.int i4)]) (st' := [.int 2, .int (V_198 (mx_i h 382) i4 (3 : Int32)), .int i3]) (h' := h) (P := True) 1 rfl rfl trivial ?_
    have J : ∀ (v3 : Int32) (ev3 : v3 = ((if (V_198 (mx_i h 382) i4 (3 : Int32)) < 2 then (if (V_198 (mx_i h 382) i4 i2) = i1 then ((1 : Int32) <<< (i4 &&& 31)) else 0) else 0) : Int32)), mx_wp (d + 1) 243 28 [some (.ref 381), some (.int i1), some (.int i2), some (.int i3), some (.int i4)] [.int v3, .int i3] h Q := by
      intro v3 ev3
      have H := H.2 v3 ev3
      refine wp_steps (i' := 31) (ls' := [some (.ref 381), some (.int i1), some (.int i2), some (.int (i3 ||| v3)), some (.int (i4 + 1))]) (st' := []) (h' := h) (P := True) 3 rfl rfl trivial ?_
      refine wp_J (j := 4) (st' := []) rfl rfl ?_
      exact H 
    have H := H.1
    refine wp_br (P := True) (c := 2 ≤ (V_198 (mx_i h 382) i4 (3 : Int32))) (t := 27) (st' := [.int i3]) rfl rfl trivial (fun c4 => ?_) (fun c4 => ?_)
    · have c4 := Int32.not_lt.mpr c4
      refine wp_steps (i' := 28) (ls' := [some (.ref 381), some (.int i1), some (.int i2), some (.int i3), some (.int i4)]) (st' := [.int 0, .int i3]) (h' := h) (P := True) 1 rfl rfl trivial ?_
      exact J _ (by rw [if_neg c4])
    · have c4 := Int32.not_le.mp c4
      have H := H.1 c4
      refine wp_steps (i' := 20) (ls' := [some (.ref 381), some (.int i1), some (.int i2), some (.int i3), some (.int i4)]) (st' := [.int i2, .int i4, .ref 381, .int i3]) (h' := h) (P := True) 3 rfl rfl trivial ?_
      obtain ⟨o5, H⟩ := H
      refine wp_call (b := false) (y' := 198) (as := [.ref 381, .int i4, .int i2]) (rest := [.int i3]) (P := ((mxT 381).1 = mxRc 198 ∧ mxG h)) rfl (by with_unfolding_all rfl) ⟨(congrArg Prod.fst sT_381), G⟩ (Nat.le_of_ble_eq_true rfl) (sp_198 G o5 ?_)
      show mx_wp (d + 1) 243 21 [some (.ref 381), some (.int i1), some (.int i2), some (.int i3), some (.int i4)] [.int (V_198 (mx_i h 382) i4 i2), .int i3] h Q
      refine wp_steps (i' := 22) (ls' := [some (.ref 381), some (.int i1), some (.int i2), some (.int i3), some (.int i4)]) (st' := [.int i1, .int (V_198 (mx_i h 382) i4 i2), .int i3]) (h' := h) (P := True) 1 rfl rfl trivial ?_
      refine wp_br (P := True) (c := ¬ (V_198 (mx_i h 382) i4 i2) = i1) (t := 27) (st' := [.int i3]) rfl rfl trivial (fun c6 => ?_) (fun c6 => ?_)
      · skip
        refine wp_steps (i' := 28) (ls' := [some (.ref 381), some (.int i1), some (.int i2), some (.int i3), some (.int i4)]) (st' := [.int 0, .int i3]) (h' := h) (P := True) 1 rfl rfl trivial ?_
        exact J _ (by rw [if_pos c4, if_neg c6])
      · have c6 := Decidable.of_not_not c6
        refine wp_steps (i' := 26) (ls' := [some (.ref 381), some (.int i1), some (.int i2), some (.int i3), some (.int i4)]) (st' := [.int ((1 : Int32) <<< (i4 &&& 31)), .int i3]) (h' := h) (P := True) 3 rfl rfl trivial ?_
        refine wp_J (j := 28) (st' := [.int ((1 : Int32) <<< (i4 &&& 31)), .int i3]) rfl rfl ?_
        exact J _ (by rw [if_pos c4, if_pos c6])
def F_243_4 (r : Nat → Int32) (i1 : Int32) (i2 : Int32) (z : Nat) (s : Int32) : Int32 := (s ||| ((if (V_198 (r) (nI z) (3 : Int32)) < 2 then (if (V_198 (r) (nI z) i2) = i1 then ((1 : Int32) <<< ((nI z) &&& 31)) else 0) else 0) : Int32))
theorem lp_243_4 {d : Nat} {h : mxH} {Q : mxO → mxH → Prop} {i1 : Int32} {i2 : Int32} {s0 : Int32} {n : Nat} (z0 : Nat) (G : mxG h)  (hB : (mx_i h 382 4) = nI n) (hn : n < 2147483648) (hz : z0 ≤ n) (ob : ∀ z, z0 ≤ z → z < n → (vp_in ((69 + (6 * (nI z))) + (3 : Int32)) 769 ∧ ((((V_198 (mx_i h 382) (nI z) (3 : Int32)) < 2 → (vp_in ((69 + (6 * (nI z))) + i2) 769 ∧ True)) ∧ (¬ (V_198 (mx_i h 382) (nI z) (3 : Int32)) < 2 → True)) ∧ True))) (k : Q (.inl (some (.int (fz (F_243_4 (mx_i h 382) i1 i2) z0 n s0)))) h) : H_243_4 (d + 1) h i1 i2 s0 (nI z0) Q := by
  have L : ∀ (j z : Nat), z0 ≤ z → z + j = n → H_243_4 (d + 1) h i1 i2 (fz (F_243_4 (mx_i h 382) i1 i2) z0 z s0) (nI z) Q := by
    intro j
    induction j with
    | zero =>
      intro z hz0 hzn
      have hzn : z = n := by omega
      subst hzn
      refine tr_243_4 G  ⟨fun c9 => absurd (hB ▸ c9) Int32.lt_irrefl, fun c9 => k⟩
    | succ j ih =>
      intro z hz0 hzn
      have hih := ih (z + 1) (by omega) (by omega)
      rw [nI_succ, fz_s hz0] at hih
      have hob := ob z hz0 (by omega)
      refine tr_243_4 G  ⟨fun c9 => ?_, fun c9 => absurd (hB.symm ▸ nI_lt (by omega) hn) c9⟩
      obtain ⟨q0, hob⟩ := hob
      refine ⟨q0, ?_⟩
      obtain ⟨q0, hob⟩ := hob
      refine ⟨q0, ?_⟩
      intro v3 ev3
      subst ev3
      exact hih
  have L0 := L (n - z0) z0 (Nat.le_refl _) (by omega)
  simp only [fz_0] at L0
  exact L0
def V_243 (r : Nat → Int32) (i1 : Int32) (i2 : Int32) : Int32 := (fo (F_243_4 (r) i1 i2) ((r 4)).toNatClampNeg 0)
theorem sp_243 {d : Nat} {h : mxH} {Q : mxO → mxH → Prop} {i1 : Int32} {i2 : Int32} (G : mxG h)  (hcb : cB (mx_i h 382 4) 10) (x0 : isI i2 6) (k : Q (.inl (some (.int (V_243 (mx_i h 382) i1 i2)))) h) : mx_wp (d + 1) 243 0 (mx_fr 243 [.ref 381, .int i1, .int i2]) [] h Q := by
  unfold V_243 at k
  obtain ⟨n, hn, hB⟩ := hcb
  rw [hB, nI_clamp (by omega)] at k
  refine tr_243_0 G  ?_
  refine lp_243_4 (s0 := 0) 0 G  hB (by omega) (Nat.zero_le _) (fun z _ hz => ⟨vpS (by omega), ⟨⟨fun _ => ⟨vpS2 (by omega) x0, trivial⟩, fun _ => trivial⟩, trivial⟩⟩) ?_
  simp only [fz_fo]
  exact k
/-! 244: StoneBacksModel.person(II)I -/
set_option maxRecDepth 8000 in
theorem tr_244_0 {d : Nat} {h : mxH} {Q : mxO → mxH → Prop} {i1 : Int32} {i2 : Int32} (G : mxG h)  (H : (((V_191 (mx_i h 382) i1 (0 : Int32) ((mx_i h 382 3) - 1)) = 0 ∨ (V_191 (mx_i h 382) i1 (0 : Int32) ((mx_i h 382 3) - 1)) = 1) ∧ (∀ (v2 : Int32), v2 = ((if (V_200 (mx_i h 382) i1) = 0 then 1 else (if (V_191 (mx_i h 382) i2 (0 : Int32) (11 : Int32)) = 0 then 2 else 0)) : Int32) → (∀ h3, h3 = mx_wi h 381 0 v2 → ((0 < (mx_i h3 381 0) → Q (.inl (some (.int 0))) h3) ∧ (¬ 0 < (mx_i h3 381 0) → ((i2 < 6 → (vp_in ((33 + (6 * i1)) + i2) 769 ∧ Q (.inl (some (.int (V_196 (mx_i h3 382) i1 i2)))) h3)) ∧ (¬ i2 < 6 → ((i2 = 6 → (cB (mx_i h3 382 4) 10 ∧ Q (.inl (some (.int (V_205 (mx_i h3 382) i1)))) h3)) ∧ (¬ i2 = 6 → ((i2 = 7 → (cB (mx_i h3 382 4) 10 ∧ Q (.inl (some (.int (V_203 (mx_i h3 382) i1)))) h3)) ∧ (¬ i2 = 7 → ((i2 = 8 → (cB (mx_i h3 382 4) 10 ∧ isI (0 : Int32) 6 ∧ Q (.inl (some (.int (V_204 (mx_i h3 382) (V_243 (mx_i h3 382) i1 (0 : Int32)))))) h3)) ∧ (¬ i2 = 8 → ((i2 = 9 → (cB (mx_i h3 382 4) 10 ∧ isI (1 : Int32) 6 ∧ Q (.inl (some (.int (V_204 (mx_i h3 382) (V_243 (mx_i h3 382) i1 (1 : Int32)))))) h3)) ∧ (¬ i2 = 9 → (((i2 = 10 → (cB (mx_i h3 382 4) 10 ∧ (isI (0 : Int32) 6 ∧ True))) ∧ (¬ i2 = 10 → (cB (mx_i h3 382 4) 10 ∧ vp_in ((33 + (6 * i1)) + (1 : Int32)) 769 ∧ (((V_196 (mx_i h3 382) i1 (1 : Int32)) < (V_205 (mx_i h3 382) i1) → True) ∧ (¬ (V_196 (mx_i h3 382) i1 (1 : Int32)) < (V_205 (mx_i h3 382) i1) → (vp_in ((33 + (6 * i1)) + (4 : Int32)) 769 ∧ (((V_196 (mx_i h3 382) i1 (4 : Int32)) = 99 → True) ∧ (¬ (V_196 (mx_i h3 382) i1 (4 : Int32)) = 99 → (vp_in ((33 + (6 * i1)) + (5 : Int32)) 769 ∧ True)))))) ∧ True))) ∧ (∀ (v12 : Int32), v12 = ((if i2 = 10 then ((V_203 (mx_i h3 382) i1) &&& ((V_243 (mx_i h3 382) i1 (0 : Int32)) ^^^ (-1))) else (if (V_206 (mx_i h3 382) i1) = 0 then 0 else 1)) : Int32) → Q (.inl (some (.int v12))) h3)))))))))))))))))) : mx_wp (d + 4) 244 0 (mx_fr 244 [.ref 381, .int i1, .int i2]) [] h Q := by
  show mx_wp (d + 4) 244 0 [some (.ref 381), some (.int i1), some (.int i2)] [] h Q
  refine wp_steps (i' := 3) (ls' := [some (.ref 381), some (.int i1), some (.int i2)]) (st' := [.int i1, .ref 381, .ref 381]) (h' := h) (P := True) 3 rfl rfl trivial ?_
  obtain ⟨o1, H⟩ := H
  refine wp_call (b := false) (y' := 200) (as := [.ref 381, .int i1]) (rest := [.ref 381]) (P := ((mxT 381).1 = mxRc 200 ∧ mxG h)) rfl (by with_unfolding_all rfl) ⟨(congrArg Prod.fst sT_381), G⟩ (Nat.le_of_ble_eq_true rfl) (sp_200 G o1 ?_)
  show mx_wp (d + 4) 244 4 [some (.ref 381), some (.int i1), some (.int i2)] [.int (V_200 (mx_i h 382) i1), .ref 381] h Q
  have J : ∀ (v2 : Int32) (ev2 : v2 = ((if (V_200 (mx_i h 382) i1) = 0 then 1 else (if (V_191 (mx_i h 382) i2 (0 : Int32) (11 : Int32)) = 0 then 2 else 0)) : Int32)), mx_wp (d + 4) 244 15 [some (.ref 381), some (.int i1), some (.int i2)] [.int v2, .ref 381] h Q := by
    intro v2 ev2
    have H := H v2 ev2
    refine wp_steps (i' := 16) (ls' := [some (.ref 381), some (.int i1), some (.int i2)]) (st' := []) (h' := mx_wi h 381 0 v2) (P := ((mxT 381).1 = 11 ∧ mxG h) ∧ True) 1 rfl rfl ⟨⟨(congrArg Prod.fst sT_381), G⟩, trivial⟩ ?_
    obtain ⟨h3, e4⟩ : ∃ z9, z9 = mx_wi h 381 0 v2 := ⟨_, rfl⟩
    rw [← e4]
    have H := H h3 e4
    have G5 : mxG h3 := e4 ▸ mxG_wi G
    refine wp_steps (i' := 18) (ls' := [some (.ref 381), some (.int i1), some (.int i2)]) (st' := [.int (mx_i h3 381 0)]) (h' := h3) (P := ((mxT 381).1 = 11 ∧ mxG h3) ∧ True) 2 rfl rfl ⟨⟨(congrArg Prod.fst sT_381), G5⟩, trivial⟩ ?_
    refine wp_br (P := True) (c := (mx_i h3 381 0) ≤ 0) (t := 21) (st' := []) rfl rfl trivial (fun c6 => ?_) (fun c6 => ?_)
    · have c6 := Int32.not_lt.mpr c6
      have H := H.2 c6
      refine wp_steps (i' := 23) (ls' := [some (.ref 381), some (.int i1), some (.int i2)]) (st' := [.int 6, .int i2]) (h' := h3) (P := True) 2 rfl rfl trivial ?_
      refine wp_br (P := True) (c := 6 ≤ i2) (t := 29) (st' := []) rfl rfl trivial (fun c7 => ?_) (fun c7 => ?_)
      · have c7 := Int32.not_lt.mpr c7
        have H := H.2 c7
        refine wp_steps (i' := 31) (ls' := [some (.ref 381), some (.int i1), some (.int i2)]) (st' := [.int 6, .int i2]) (h' := h3) (P := True) 2 rfl rfl trivial ?_
        refine wp_br (P := True) (c := ¬ i2 = 6) (t := 36) (st' := []) rfl rfl trivial (fun c8 => ?_) (fun c8 => ?_)
        · skip
          have H := H.2 c8
          refine wp_steps (i' := 38) (ls' := [some (.ref 381), some (.int i1), some (.int i2)]) (st' := [.int 7, .int i2]) (h' := h3) (P := True) 2 rfl rfl trivial ?_
          refine wp_br (P := True) (c := ¬ i2 = 7) (t := 43) (st' := []) rfl rfl trivial (fun c9 => ?_) (fun c9 => ?_)
          · skip
            have H := H.2 c9
            refine wp_steps (i' := 45) (ls' := [some (.ref 381), some (.int i1), some (.int i2)]) (st' := [.int 8, .int i2]) (h' := h3) (P := True) 2 rfl rfl trivial ?_
            refine wp_br (P := True) (c := ¬ i2 = 8) (t := 53) (st' := []) rfl rfl trivial (fun c10 => ?_) (fun c10 => ?_)
            · skip
              have H := H.2 c10
              refine wp_steps (i' := 55) (ls' := [some (.ref 381), some (.int i1), some (.int i2)]) (st' := [.int 9, .int i2]) (h' := h3) (P := True) 2 rfl rfl trivial ?_
              refine wp_br (P := True) (c := ¬ i2 = 9) (t := 63) (st' := []) rfl rfl trivial (fun c11 => ?_) (fun c11 => ?_)
              · skip
                have H := H.2 c11
                refine wp_steps (i' := 65) (ls' := [some (.ref 381), some (.int i1), some (.int i2)]) (st' := [.int 10, .int i2]) (h' := h3) (P := True) 2 rfl rfl trivial ?_
                have J : ∀ (v12 : Int32) (ev12 : v12 = ((if i2 = 10 then ((V_203 (mx_i h3 382) i1) &&& ((V_243 (mx_i h3 382) i1 (0 : Int32)) ^^^ (-1))) else (if (V_206 (mx_i h3 382) i1) = 0 then 0 else 1)) : Int32)), mx_wp (d + 4) 244 84 [some (.ref 381), some (.int i1), some (.int i2)] [.int v12] h3 Q := by
                  intro v12 ev12
                  have H := H.2 v12 ev12
                  exact wp_end (o := .inl (some (.int v12))) (h' := h3) (P := True) rfl rfl trivial H
                have H := H.1
                refine wp_br (P := True) (c := ¬ i2 = 10) (t := 77) (st' := []) rfl rfl trivial (fun c13 => ?_) (fun c13 => ?_)
                · skip
                  have H := H.2 c13
                  refine wp_steps (i' := 79) (ls' := [some (.ref 381), some (.int i1), some (.int i2)]) (st' := [.int i1, .ref 381]) (h' := h3) (P := True) 2 rfl rfl trivial ?_
                  obtain ⟨o14, o15, o16, H⟩ := H
                  refine wp_call (b := false) (y' := 206) (as := [.ref 381, .int i1]) (rest := []) (P := ((mxT 381).1 = mxRc 206 ∧ mxG h3)) rfl (by with_unfolding_all rfl) ⟨(congrArg Prod.fst sT_381), G5⟩ (Nat.le_of_ble_eq_true rfl) (sp_206 G5 o14 o15 o16 ?_)
                  show mx_wp (d + 4) 244 80 [some (.ref 381), some (.int i1), some (.int i2)] [.int (V_206 (mx_i h3 382) i1)] h3 Q
                  refine wp_br (P := True) (c := (V_206 (mx_i h3 382) i1) = 0) (t := 83) (st' := []) rfl rfl trivial (fun c17 => ?_) (fun c17 => ?_)
                  · skip
                    refine wp_steps (i' := 84) (ls' := [some (.ref 381), some (.int i1), some (.int i2)]) (st' := [.int 0]) (h' := h3) (P := True) 1 rfl rfl trivial ?_
                    exact J _ (by rw [if_neg c13, if_pos c17])
                  · skip
                    refine wp_steps (i' := 82) (ls' := [some (.ref 381), some (.int i1), some (.int i2)]) (st' := [.int 1]) (h' := h3) (P := True) 1 rfl rfl trivial ?_
                    refine wp_J (j := 84) (st' := [.int 1]) rfl rfl ?_
                    exact J _ (by rw [if_neg c13, if_neg c17])
                · have c13 := Decidable.of_not_not c13
                  have H := H.1 c13
                  refine wp_steps (i' := 68) (ls' := [some (.ref 381), some (.int i1), some (.int i2)]) (st' := [.int i1, .ref 381]) (h' := h3) (P := True) 2 rfl rfl trivial ?_
                  obtain ⟨o18, H⟩ := H
                  refine wp_call (b := false) (y' := 203) (as := [.ref 381, .int i1]) (rest := []) (P := ((mxT 381).1 = mxRc 203 ∧ mxG h3)) rfl (by with_unfolding_all rfl) ⟨(congrArg Prod.fst sT_381), G5⟩ (Nat.le_of_ble_eq_true rfl) (sp_203 G5 o18 ?_)
                  show mx_wp (d + 4) 244 69 [some (.ref 381), some (.int i1), some (.int i2)] [.int (V_203 (mx_i h3 382) i1)] h3 Q
                  refine wp_steps (i' := 72) (ls' := [some (.ref 381), some (.int i1), some (.int i2)]) (st' := [.int 0, .int i1, .ref 381, .int (V_203 (mx_i h3 382) i1)]) (h' := h3) (P := True) 3 rfl rfl trivial ?_
                  obtain ⟨o19, H⟩ := H
                  refine wp_call (b := false) (y' := 243) (as := [.ref 381, .int i1, .int 0]) (rest := [.int (V_203 (mx_i h3 382) i1)]) (P := ((mxT 381).1 = mxRc 243 ∧ mxG h3)) rfl (by with_unfolding_all rfl) ⟨(congrArg Prod.fst sT_381), G5⟩ (Nat.le_of_ble_eq_true rfl) (sp_243 G5 o18 o19 ?_)
                  show mx_wp (d + 4) 244 73 [some (.ref 381), some (.int i1), some (.int i2)] [.int (V_243 (mx_i h3 382) i1 (0 : Int32)), .int (V_203 (mx_i h3 382) i1)] h3 Q
                  refine wp_steps (i' := 76) (ls' := [some (.ref 381), some (.int i1), some (.int i2)]) (st' := [.int ((V_203 (mx_i h3 382) i1) &&& ((V_243 (mx_i h3 382) i1 (0 : Int32)) ^^^ (-1)))]) (h' := h3) (P := True) 3 rfl rfl trivial ?_
                  refine wp_J (j := 84) (st' := [.int ((V_203 (mx_i h3 382) i1) &&& ((V_243 (mx_i h3 382) i1 (0 : Int32)) ^^^ (-1)))]) rfl rfl ?_
                  exact J _ (by rw [if_pos c13])
              · have c11 := Decidable.of_not_not c11
                have H := H.1 c11
                refine wp_steps (i' := 60) (ls' := [some (.ref 381), some (.int i1), some (.int i2)]) (st' := [.int 1, .int i1, .ref 381, .ref 381]) (h' := h3) (P := True) 4 rfl rfl trivial ?_
                obtain ⟨o20, o21, H⟩ := H
                refine wp_call (b := false) (y' := 243) (as := [.ref 381, .int i1, .int 1]) (rest := [.ref 381]) (P := ((mxT 381).1 = mxRc 243 ∧ mxG h3)) rfl (by with_unfolding_all rfl) ⟨(congrArg Prod.fst sT_381), G5⟩ (Nat.le_of_ble_eq_true rfl) (sp_243 G5 o20 o21 ?_)
                show mx_wp (d + 4) 244 61 [some (.ref 381), some (.int i1), some (.int i2)] [.int (V_243 (mx_i h3 382) i1 (1 : Int32)), .ref 381] h3 Q
                refine wp_call (b := false) (y' := 204) (as := [.ref 381, .int (V_243 (mx_i h3 382) i1 (1 : Int32))]) (rest := []) (P := ((mxT 381).1 = mxRc 204 ∧ mxG h3)) rfl (by with_unfolding_all rfl) ⟨(congrArg Prod.fst sT_381), G5⟩ (Nat.le_of_ble_eq_true rfl) (sp_204 G5 o20 ?_)
                show mx_wp (d + 4) 244 62 [some (.ref 381), some (.int i1), some (.int i2)] [.int (V_204 (mx_i h3 382) (V_243 (mx_i h3 382) i1 (1 : Int32)))] h3 Q
                exact wp_end (o := .inl (some (.int (V_204 (mx_i h3 382) (V_243 (mx_i h3 382) i1 (1 : Int32)))))) (h' := h3) (P := True) rfl rfl trivial H
            · have c10 := Decidable.of_not_not c10
              have H := H.1 c10
              refine wp_steps (i' := 50) (ls' := [some (.ref 381), some (.int i1), some (.int i2)]) (st' := [.int 0, .int i1, .ref 381, .ref 381]) (h' := h3) (P := True) 4 rfl rfl trivial ?_
              obtain ⟨o22, o23, H⟩ := H
              refine wp_call (b := false) (y' := 243) (as := [.ref 381, .int i1, .int 0]) (rest := [.ref 381]) (P := ((mxT 381).1 = mxRc 243 ∧ mxG h3)) rfl (by with_unfolding_all rfl) ⟨(congrArg Prod.fst sT_381), G5⟩ (Nat.le_of_ble_eq_true rfl) (sp_243 G5 o22 o23 ?_)
              show mx_wp (d + 4) 244 51 [some (.ref 381), some (.int i1), some (.int i2)] [.int (V_243 (mx_i h3 382) i1 (0 : Int32)), .ref 381] h3 Q
              refine wp_call (b := false) (y' := 204) (as := [.ref 381, .int (V_243 (mx_i h3 382) i1 (0 : Int32))]) (rest := []) (P := ((mxT 381).1 = mxRc 204 ∧ mxG h3)) rfl (by with_unfolding_all rfl) ⟨(congrArg Prod.fst sT_381), G5⟩ (Nat.le_of_ble_eq_true rfl) (sp_204 G5 o22 ?_)
              show mx_wp (d + 4) 244 52 [some (.ref 381), some (.int i1), some (.int i2)] [.int (V_204 (mx_i h3 382) (V_243 (mx_i h3 382) i1 (0 : Int32)))] h3 Q
              exact wp_end (o := .inl (some (.int (V_204 (mx_i h3 382) (V_243 (mx_i h3 382) i1 (0 : Int32)))))) (h' := h3) (P := True) rfl rfl trivial H
          · have c9 := Decidable.of_not_not c9
            have H := H.1 c9
            refine wp_steps (i' := 41) (ls' := [some (.ref 381), some (.int i1), some (.int i2)]) (st' := [.int i1, .ref 381]) (h' := h3) (P := True) 2 rfl rfl trivial ?_
            obtain ⟨o24, H⟩ := H
            refine wp_call (b := false) (y' := 203) (as := [.ref 381, .int i1]) (rest := []) (P := ((mxT 381).1 = mxRc 203 ∧ mxG h3)) rfl (by with_unfolding_all rfl) ⟨(congrArg Prod.fst sT_381), G5⟩ (Nat.le_of_ble_eq_true rfl) (sp_203 G5 o24 ?_)
            show mx_wp (d + 4) 244 42 [some (.ref 381), some (.int i1), some (.int i2)] [.int (V_203 (mx_i h3 382) i1)] h3 Q
            exact wp_end (o := .inl (some (.int (V_203 (mx_i h3 382) i1)))) (h' := h3) (P := True) rfl rfl trivial H
        · have c8 := Decidable.of_not_not c8
          have H := H.1 c8
          refine wp_steps (i' := 34) (ls' := [some (.ref 381), some (.int i1), some (.int i2)]) (st' := [.int i1, .ref 381]) (h' := h3) (P := True) 2 rfl rfl trivial ?_
          obtain ⟨o25, H⟩ := H
          refine wp_call (b := false) (y' := 205) (as := [.ref 381, .int i1]) (rest := []) (P := ((mxT 381).1 = mxRc 205 ∧ mxG h3)) rfl (by with_unfolding_all rfl) ⟨(congrArg Prod.fst sT_381), G5⟩ (Nat.le_of_ble_eq_true rfl) (sp_205 G5 o25 ?_)
          show mx_wp (d + 4) 244 35 [some (.ref 381), some (.int i1), some (.int i2)] [.int (V_205 (mx_i h3 382) i1)] h3 Q
          exact wp_end (o := .inl (some (.int (V_205 (mx_i h3 382) i1)))) (h' := h3) (P := True) rfl rfl trivial H
      · have c7 := Int32.not_le.mp c7
        have H := H.1 c7
        refine wp_steps (i' := 27) (ls' := [some (.ref 381), some (.int i1), some (.int i2)]) (st' := [.int i2, .int i1, .ref 381]) (h' := h3) (P := True) 3 rfl rfl trivial ?_
        obtain ⟨o26, H⟩ := H
        refine wp_call (b := false) (y' := 196) (as := [.ref 381, .int i1, .int i2]) (rest := []) (P := ((mxT 381).1 = mxRc 196 ∧ mxG h3)) rfl (by with_unfolding_all rfl) ⟨(congrArg Prod.fst sT_381), G5⟩ (Nat.le_of_ble_eq_true rfl) (sp_196 G5 o26 ?_)
        show mx_wp (d + 4) 244 28 [some (.ref 381), some (.int i1), some (.int i2)] [.int (V_196 (mx_i h3 382) i1 i2)] h3 Q
        exact wp_end (o := .inl (some (.int (V_196 (mx_i h3 382) i1 i2)))) (h' := h3) (P := True) rfl rfl trivial H
    · have c6 := Int32.not_le.mp c6
      have H := H.1 c6
      refine wp_steps (i' := 20) (ls' := [some (.ref 381), some (.int i1), some (.int i2)]) (st' := [.int 0]) (h' := h3) (P := True) 1 rfl rfl trivial ?_
      exact wp_end (o := .inl (some (.int 0))) (h' := h3) (P := True) rfl rfl trivial H
  refine wp_br (P := True) (c := ¬ (V_200 (mx_i h 382) i1) = 0) (t := 7) (st' := [.ref 381]) rfl rfl trivial (fun c27 => ?_) (fun c27 => ?_)
  · skip
    refine wp_steps (i' := 10) (ls' := [some (.ref 381), some (.int i1), some (.int i2)]) (st' := [.int 11, .int 0, .int i2, .ref 381]) (h' := h) (P := True) 3 rfl rfl trivial ?_
    refine wp_call (b := false) (y' := 191) (as := [.int i2, .int 0, .int 11]) (rest := [.ref 381]) (P := True) rfl (by with_unfolding_all rfl) trivial (Nat.le_of_ble_eq_true rfl) (sp_191 G ?_)
    show mx_wp (d + 4) 244 11 [some (.ref 381), some (.int i1), some (.int i2)] [.int (V_191 (mx_i h 382) i2 (0 : Int32) (11 : Int32)), .ref 381] h Q
    refine wp_br (P := True) (c := ¬ (V_191 (mx_i h 382) i2 (0 : Int32) (11 : Int32)) = 0) (t := 14) (st' := [.ref 381]) rfl rfl trivial (fun c28 => ?_) (fun c28 => ?_)
    · skip
      refine wp_steps (i' := 15) (ls' := [some (.ref 381), some (.int i1), some (.int i2)]) (st' := [.int 0, .ref 381]) (h' := h) (P := True) 1 rfl rfl trivial ?_
      exact J _ (by rw [if_neg c27, if_neg c28])
    · have c28 := Decidable.of_not_not c28
      refine wp_steps (i' := 13) (ls' := [some (.ref 381), some (.int i1), some (.int i2)]) (st' := [.int 2, .ref 381]) (h' := h) (P := True) 1 rfl rfl trivial ?_
      refine wp_J (j := 15) (st' := [.int 2, .ref 381]) rfl rfl ?_
      exact J _ (by rw [if_neg c27, if_pos c28])
  · have c27 := Decidable.of_not_not c27
    refine wp_steps (i' := 6) (ls' := [some (.ref 381), some (.int i1), some (.int i2)]) (st' := [.int 1, .ref 381]) (h' := h) (P := True) 1 rfl rfl trivial ?_
    refine wp_J (j := 15) (st' := [.int 1, .ref 381]) rfl rfl ?_
    exact J _ (by rw [if_pos c27])
def V_244 (h : mxH) (i1 : Int32) (i2 : Int32) : Int32 := (if 0 < (mx_i (mx_wi h 381 0 ((if (V_200 (mx_i h 382) i1) = 0 then 1 else (if (V_191 (mx_i h 382) i2 (0 : Int32) (11 : Int32)) = 0 then 2 else 0)) : Int32)) 381 0) then 0 else (if i2 < 6 then (V_196 (mx_i (mx_wi h 381 0 ((if (V_200 (mx_i h 382) i1) = 0 then 1 else (if (V_191 (mx_i h 382) i2 (0 : Int32) (11 : Int32)) = 0 then 2 else 0)) : Int32)) 382) i1 i2) else (if i2 = 6 then (V_205 (mx_i (mx_wi h 381 0 ((if (V_200 (mx_i h 382) i1) = 0 then 1 else (if (V_191 (mx_i h 382) i2 (0 : Int32) (11 : Int32)) = 0 then 2 else 0)) : Int32)) 382) i1) else (if i2 = 7 then (V_203 (mx_i (mx_wi h 381 0 ((if (V_200 (mx_i h 382) i1) = 0 then 1 else (if (V_191 (mx_i h 382) i2 (0 : Int32) (11 : Int32)) = 0 then 2 else 0)) : Int32)) 382) i1) else (if i2 = 8 then (V_204 (mx_i (mx_wi h 381 0 ((if (V_200 (mx_i h 382) i1) = 0 then 1 else (if (V_191 (mx_i h 382) i2 (0 : Int32) (11 : Int32)) = 0 then 2 else 0)) : Int32)) 382) (V_243 (mx_i (mx_wi h 381 0 ((if (V_200 (mx_i h 382) i1) = 0 then 1 else (if (V_191 (mx_i h 382) i2 (0 : Int32) (11 : Int32)) = 0 then 2 else 0)) : Int32)) 382) i1 (0 : Int32))) else (if i2 = 9 then (V_204 (mx_i (mx_wi h 381 0 ((if (V_200 (mx_i h 382) i1) = 0 then 1 else (if (V_191 (mx_i h 382) i2 (0 : Int32) (11 : Int32)) = 0 then 2 else 0)) : Int32)) 382) (V_243 (mx_i (mx_wi h 381 0 ((if (V_200 (mx_i h 382) i1) = 0 then 1 else (if (V_191 (mx_i h 382) i2 (0 : Int32) (11 : Int32)) = 0 then 2 else 0)) : Int32)) 382) i1 (1 : Int32))) else ((if i2 = 10 then ((V_203 (mx_i (mx_wi h 381 0 ((if (V_200 (mx_i h 382) i1) = 0 then 1 else (if (V_191 (mx_i h 382) i2 (0 : Int32) (11 : Int32)) = 0 then 2 else 0)) : Int32)) 382) i1) &&& ((V_243 (mx_i (mx_wi h 381 0 ((if (V_200 (mx_i h 382) i1) = 0 then 1 else (if (V_191 (mx_i h 382) i2 (0 : Int32) (11 : Int32)) = 0 then 2 else 0)) : Int32)) 382) i1 (0 : Int32)) ^^^ (-1))) else (if (V_206 (mx_i (mx_wi h 381 0 ((if (V_200 (mx_i h 382) i1) = 0 then 1 else (if (V_191 (mx_i h 382) i2 (0 : Int32) (11 : Int32)) = 0 then 2 else 0)) : Int32)) 382) i1) = 0 then 0 else 1)) : Int32)))))))
def W_244 (h : mxH) (i1 : Int32) (i2 : Int32) : mxH := (mx_wi h 381 0 ((if (V_200 (mx_i h 382) i1) = 0 then 1 else (if (V_191 (mx_i h 382) i2 (0 : Int32) (11 : Int32)) = 0 then 2 else 0)) : Int32))
theorem KW_244 {h : mxH} {i1 : Int32} {i2 : Int32} : mxK h (W_244 h i1 i2) := by
  unfold W_244
  repeat' (first | with_reducible exact mxK_rfl | with_reducible exact mxK_wi | with_reducible exact mxK_wrow | with_reducible refine mxK_ite ?_ ?_ | with_reducible refine mxK_tr ?_ mxK_wi | with_reducible refine mxK_tr ?_ mxK_wrow)
theorem sp_244 {d : Nat} {h : mxH} {Q : mxO → mxH → Prop} {i1 : Int32} {i2 : Int32} (G : mxG h)  (x0 : ((V_191 (mx_i h 382) i1 (0 : Int32) ((mx_i h 382 3) - 1)) = 0 ∨ (V_191 (mx_i h 382) i1 (0 : Int32) ((mx_i h 382 3) - 1)) = 1)) (x1 : ((0 < (mx_i (mx_wi h 381 0 ((if (V_200 (mx_i h 382) i1) = 0 then 1 else (if (V_191 (mx_i h 382) i2 (0 : Int32) (11 : Int32)) = 0 then 2 else 0)) : Int32)) 381 0) → True) ∧ (¬ 0 < (mx_i (mx_wi h 381 0 ((if (V_200 (mx_i h 382) i1) = 0 then 1 else (if (V_191 (mx_i h 382) i2 (0 : Int32) (11 : Int32)) = 0 then 2 else 0)) : Int32)) 381 0) → ((i2 < 6 → (vp_in ((33 + (6 * i1)) + i2) 769 ∧ True)) ∧ (¬ i2 < 6 → ((i2 = 6 → (cB (mx_i (mx_wi h 381 0 ((if (V_200 (mx_i h 382) i1) = 0 then 1 else (if (V_191 (mx_i h 382) i2 (0 : Int32) (11 : Int32)) = 0 then 2 else 0)) : Int32)) 382 4) 10 ∧ True)) ∧ (¬ i2 = 6 → ((i2 = 7 → (cB (mx_i (mx_wi h 381 0 ((if (V_200 (mx_i h 382) i1) = 0 then 1 else (if (V_191 (mx_i h 382) i2 (0 : Int32) (11 : Int32)) = 0 then 2 else 0)) : Int32)) 382 4) 10 ∧ True)) ∧ (¬ i2 = 7 → ((i2 = 8 → (cB (mx_i (mx_wi h 381 0 ((if (V_200 (mx_i h 382) i1) = 0 then 1 else (if (V_191 (mx_i h 382) i2 (0 : Int32) (11 : Int32)) = 0 then 2 else 0)) : Int32)) 382 4) 10 ∧ isI (0 : Int32) 6 ∧ True)) ∧ (¬ i2 = 8 → ((i2 = 9 → (cB (mx_i (mx_wi h 381 0 ((if (V_200 (mx_i h 382) i1) = 0 then 1 else (if (V_191 (mx_i h 382) i2 (0 : Int32) (11 : Int32)) = 0 then 2 else 0)) : Int32)) 382 4) 10 ∧ isI (1 : Int32) 6 ∧ True)) ∧ (¬ i2 = 9 → (((i2 = 10 → (cB (mx_i (mx_wi h 381 0 ((if (V_200 (mx_i h 382) i1) = 0 then 1 else (if (V_191 (mx_i h 382) i2 (0 : Int32) (11 : Int32)) = 0 then 2 else 0)) : Int32)) 382 4) 10 ∧ (isI (0 : Int32) 6 ∧ True))) ∧ (¬ i2 = 10 → (cB (mx_i (mx_wi h 381 0 ((if (V_200 (mx_i h 382) i1) = 0 then 1 else (if (V_191 (mx_i h 382) i2 (0 : Int32) (11 : Int32)) = 0 then 2 else 0)) : Int32)) 382 4) 10 ∧ vp_in ((33 + (6 * i1)) + (1 : Int32)) 769 ∧ (((V_196 (mx_i (mx_wi h 381 0 ((if (V_200 (mx_i h 382) i1) = 0 then 1 else (if (V_191 (mx_i h 382) i2 (0 : Int32) (11 : Int32)) = 0 then 2 else 0)) : Int32)) 382) i1 (1 : Int32)) < (V_205 (mx_i (mx_wi h 381 0 ((if (V_200 (mx_i h 382) i1) = 0 then 1 else (if (V_191 (mx_i h 382) i2 (0 : Int32) (11 : Int32)) = 0 then 2 else 0)) : Int32)) 382) i1) → True) ∧ (¬ (V_196 (mx_i (mx_wi h 381 0 ((if (V_200 (mx_i h 382) i1) = 0 then 1 else (if (V_191 (mx_i h 382) i2 (0 : Int32) (11 : Int32)) = 0 then 2 else 0)) : Int32)) 382) i1 (1 : Int32)) < (V_205 (mx_i (mx_wi h 381 0 ((if (V_200 (mx_i h 382) i1) = 0 then 1 else (if (V_191 (mx_i h 382) i2 (0 : Int32) (11 : Int32)) = 0 then 2 else 0)) : Int32)) 382) i1) → (vp_in ((33 + (6 * i1)) + (4 : Int32)) 769 ∧ (((V_196 (mx_i (mx_wi h 381 0 ((if (V_200 (mx_i h 382) i1) = 0 then 1 else (if (V_191 (mx_i h 382) i2 (0 : Int32) (11 : Int32)) = 0 then 2 else 0)) : Int32)) 382) i1 (4 : Int32)) = 99 → True) ∧ (¬ (V_196 (mx_i (mx_wi h 381 0 ((if (V_200 (mx_i h 382) i1) = 0 then 1 else (if (V_191 (mx_i h 382) i2 (0 : Int32) (11 : Int32)) = 0 then 2 else 0)) : Int32)) 382) i1 (4 : Int32)) = 99 → (vp_in ((33 + (6 * i1)) + (5 : Int32)) 769 ∧ True)))))) ∧ True))) ∧ True)))))))))))))) (k : Q (.inl (some (.int (V_244 h i1 i2)))) (W_244 h i1 i2)) : mx_wp (d + 4) 244 0 (mx_fr 244 [.ref 381, .int i1, .int i2]) [] h Q := by
  unfold V_244 W_244 at k
  have hob : (((V_191 (mx_i h 382) i1 (0 : Int32) ((mx_i h 382 3) - 1)) = 0 ∨ (V_191 (mx_i h 382) i1 (0 : Int32) ((mx_i h 382 3) - 1)) = 1) ∧ ((0 < (mx_i (mx_wi h 381 0 ((if (V_200 (mx_i h 382) i1) = 0 then 1 else (if (V_191 (mx_i h 382) i2 (0 : Int32) (11 : Int32)) = 0 then 2 else 0)) : Int32)) 381 0) → True) ∧ (¬ 0 < (mx_i (mx_wi h 381 0 ((if (V_200 (mx_i h 382) i1) = 0 then 1 else (if (V_191 (mx_i h 382) i2 (0 : Int32) (11 : Int32)) = 0 then 2 else 0)) : Int32)) 381 0) → ((i2 < 6 → (vp_in ((33 + (6 * i1)) + i2) 769 ∧ True)) ∧ (¬ i2 < 6 → ((i2 = 6 → (cB (mx_i (mx_wi h 381 0 ((if (V_200 (mx_i h 382) i1) = 0 then 1 else (if (V_191 (mx_i h 382) i2 (0 : Int32) (11 : Int32)) = 0 then 2 else 0)) : Int32)) 382 4) 10 ∧ True)) ∧ (¬ i2 = 6 → ((i2 = 7 → (cB (mx_i (mx_wi h 381 0 ((if (V_200 (mx_i h 382) i1) = 0 then 1 else (if (V_191 (mx_i h 382) i2 (0 : Int32) (11 : Int32)) = 0 then 2 else 0)) : Int32)) 382 4) 10 ∧ True)) ∧ (¬ i2 = 7 → ((i2 = 8 → (cB (mx_i (mx_wi h 381 0 ((if (V_200 (mx_i h 382) i1) = 0 then 1 else (if (V_191 (mx_i h 382) i2 (0 : Int32) (11 : Int32)) = 0 then 2 else 0)) : Int32)) 382 4) 10 ∧ isI (0 : Int32) 6 ∧ True)) ∧ (¬ i2 = 8 → ((i2 = 9 → (cB (mx_i (mx_wi h 381 0 ((if (V_200 (mx_i h 382) i1) = 0 then 1 else (if (V_191 (mx_i h 382) i2 (0 : Int32) (11 : Int32)) = 0 then 2 else 0)) : Int32)) 382 4) 10 ∧ isI (1 : Int32) 6 ∧ True)) ∧ (¬ i2 = 9 → (((i2 = 10 → (cB (mx_i (mx_wi h 381 0 ((if (V_200 (mx_i h 382) i1) = 0 then 1 else (if (V_191 (mx_i h 382) i2 (0 : Int32) (11 : Int32)) = 0 then 2 else 0)) : Int32)) 382 4) 10 ∧ (isI (0 : Int32) 6 ∧ True))) ∧ (¬ i2 = 10 → (cB (mx_i (mx_wi h 381 0 ((if (V_200 (mx_i h 382) i1) = 0 then 1 else (if (V_191 (mx_i h 382) i2 (0 : Int32) (11 : Int32)) = 0 then 2 else 0)) : Int32)) 382 4) 10 ∧ vp_in ((33 + (6 * i1)) + (1 : Int32)) 769 ∧ (((V_196 (mx_i (mx_wi h 381 0 ((if (V_200 (mx_i h 382) i1) = 0 then 1 else (if (V_191 (mx_i h 382) i2 (0 : Int32) (11 : Int32)) = 0 then 2 else 0)) : Int32)) 382) i1 (1 : Int32)) < (V_205 (mx_i (mx_wi h 381 0 ((if (V_200 (mx_i h 382) i1) = 0 then 1 else (if (V_191 (mx_i h 382) i2 (0 : Int32) (11 : Int32)) = 0 then 2 else 0)) : Int32)) 382) i1) → True) ∧ (¬ (V_196 (mx_i (mx_wi h 381 0 ((if (V_200 (mx_i h 382) i1) = 0 then 1 else (if (V_191 (mx_i h 382) i2 (0 : Int32) (11 : Int32)) = 0 then 2 else 0)) : Int32)) 382) i1 (1 : Int32)) < (V_205 (mx_i (mx_wi h 381 0 ((if (V_200 (mx_i h 382) i1) = 0 then 1 else (if (V_191 (mx_i h 382) i2 (0 : Int32) (11 : Int32)) = 0 then 2 else 0)) : Int32)) 382) i1) → (vp_in ((33 + (6 * i1)) + (4 : Int32)) 769 ∧ (((V_196 (mx_i (mx_wi h 381 0 ((if (V_200 (mx_i h 382) i1) = 0 then 1 else (if (V_191 (mx_i h 382) i2 (0 : Int32) (11 : Int32)) = 0 then 2 else 0)) : Int32)) 382) i1 (4 : Int32)) = 99 → True) ∧ (¬ (V_196 (mx_i (mx_wi h 381 0 ((if (V_200 (mx_i h 382) i1) = 0 then 1 else (if (V_191 (mx_i h 382) i2 (0 : Int32) (11 : Int32)) = 0 then 2 else 0)) : Int32)) 382) i1 (4 : Int32)) = 99 → (vp_in ((33 + (6 * i1)) + (5 : Int32)) 769 ∧ True)))))) ∧ True))) ∧ True)))))))))))))) := ⟨x0, x1⟩
  refine tr_244_0 G  ?_
  obtain ⟨q0, hob⟩ := hob
  refine ⟨q0, ?_⟩
  intro v2 ev2
  subst ev2
  intro h3 eh3
  subst eh3
  refine ⟨fun c9 => ?_, fun c9 => ?_⟩
  · try simp only [if_pos c9] at k
    have hob := hob.1 c9
    exact k
  · try simp only [if_neg c9] at k
    have hob := hob.2 c9
    refine ⟨fun c9 => ?_, fun c9 => ?_⟩
    · try simp only [if_pos c9] at k
      have hob := hob.1 c9
      obtain ⟨q0, hob⟩ := hob
      refine ⟨q0, ?_⟩
      exact k
    · try simp only [if_neg c9] at k
      have hob := hob.2 c9
      refine ⟨fun c9 => ?_, fun c9 => ?_⟩
      · try simp only [if_pos c9] at k
        have hob := hob.1 c9
        obtain ⟨q0, hob⟩ := hob
        refine ⟨q0, ?_⟩
        exact k
      · try simp only [if_neg c9] at k
        have hob := hob.2 c9
        refine ⟨fun c9 => ?_, fun c9 => ?_⟩
        · try simp only [if_pos c9] at k
          have hob := hob.1 c9
          obtain ⟨q0, hob⟩ := hob
          refine ⟨q0, ?_⟩
          exact k
        · try simp only [if_neg c9] at k
          have hob := hob.2 c9
          refine ⟨fun c9 => ?_, fun c9 => ?_⟩
          · try simp only [if_pos c9] at k
            have hob := hob.1 c9
            obtain ⟨q0, q1, hob⟩ := hob
            refine ⟨q0, q1, ?_⟩
            exact k
          · try simp only [if_neg c9] at k
            have hob := hob.2 c9
            refine ⟨fun c9 => ?_, fun c9 => ?_⟩
            · try simp only [if_pos c9] at k
              have hob := hob.1 c9
              obtain ⟨q0, q1, hob⟩ := hob
              refine ⟨q0, q1, ?_⟩
              exact k
            · try simp only [if_neg c9] at k
              have hob := hob.2 c9
              obtain ⟨q0, hob⟩ := hob
              refine ⟨q0, ?_⟩
              intro v12 ev12
              subst ev12
              exact k
/-! 246: StoneBacksModel.stone(II)I -/
set_option maxRecDepth 8000 in
theorem tr_246_0 {d : Nat} {h : mxH} {Q : mxO → mxH → Prop} {i1 : Int32} {i2 : Int32} (G : mxG h)  (H : (((V_191 (mx_i h 382) i1 (0 : Int32) ((mx_i h 382 4) - 1)) = 0 ∨ (V_191 (mx_i h 382) i1 (0 : Int32) ((mx_i h 382 4) - 1)) = 1) ∧ (∀ (v2 : Int32), v2 = ((if (V_201 (mx_i h 382) i1) = 0 then 1 else (if (V_191 (mx_i h 382) i2 (0 : Int32) (5 : Int32)) = 0 then 2 else 0)) : Int32) → (∀ h3, h3 = mx_wi h 381 0 v2 → ((0 < (mx_i h3 381 0) → Q (.inl (some (.int 0))) h3) ∧ (¬ 0 < (mx_i h3 381 0) → (vp_in ((69 + (6 * i1)) + (3 : Int32)) 769 ∧ ((i2 < 4 → (vp_in ((69 + (6 * i1)) + i2) 769 ∧ Q (.inl (some (.int (V_198 (mx_i h3 382) i1 i2)))) h3)) ∧ (¬ i2 < 4 → ((i2 = 4 → ((((V_198 (mx_i h3 382) i1 (3 : Int32)) = 0 → (vp_in ((69 + (6 * i1)) + (4 : Int32)) 769 ∧ True)) ∧ (¬ (V_198 (mx_i h3 382) i1 (3 : Int32)) = 0 → True)) ∧ (∀ (v16 : Int32), v16 = ((if (V_198 (mx_i h3 382) i1 (3 : Int32)) = 0 then (V_198 (mx_i h3 382) i1 (4 : Int32)) else (-1)) : Int32) → Q (.inl (some (.int v16))) h3))) ∧ (¬ i2 = 4 → ((((V_198 (mx_i h3 382) i1 (3 : Int32)) = 0 → (vp_in ((69 + (6 * i1)) + (4 : Int32)) 769 ∧ (vp_in ((33 + (6 * (V_198 (mx_i h3 382) i1 (4 : Int32)))) + (2 : Int32)) 769 ∧ True))) ∧ (¬ (V_198 (mx_i h3 382) i1 (3 : Int32)) = 0 → (((V_198 (mx_i h3 382) i1 (3 : Int32)) = 1 → (vp_in ((69 + (6 * i1)) + (5 : Int32)) 769 ∧ True)) ∧ (¬ (V_198 (mx_i h3 382) i1 (3 : Int32)) = 1 → True)))) ∧ (∀ (v10 : Int32), v10 = ((if (V_198 (mx_i h3 382) i1 (3 : Int32)) = 0 then (V_196 (mx_i h3 382) (V_198 (mx_i h3 382) i1 (4 : Int32)) (2 : Int32)) else (if (V_198 (mx_i h3 382) i1 (3 : Int32)) = 1 then (V_198 (mx_i h3 382) i1 (5 : Int32)) else (-1))) : Int32) → Q (.inl (some (.int v10))) h3))))))))))))) : mx_wp (d + 2) 246 0 (mx_fr 246 [.ref 381, .int i1, .int i2]) [] h Q := by
  show mx_wp (d + 2) 246 0 [some (.ref 381), some (.int i1), some (.int i2), none] [] h Q
  refine wp_steps (i' := 3) (ls' := [some (.ref 381), some (.int i1), some (.int i2), none]) (st' := [.int i1, .ref 381, .ref 381]) (h' := h) (P := True) 3 rfl rfl trivial ?_
  obtain ⟨o1, H⟩ := H
  refine wp_call (b := false) (y' := 201) (as := [.ref 381, .int i1]) (rest := [.ref 381]) (P := ((mxT 381).1 = mxRc 201 ∧ mxG h)) rfl (by with_unfolding_all rfl) ⟨(congrArg Prod.fst sT_381), G⟩ (Nat.le_of_ble_eq_true rfl) (sp_201 G o1 ?_)
  show mx_wp (d + 2) 246 4 [some (.ref 381), some (.int i1), some (.int i2), none] [.int (V_201 (mx_i h 382) i1), .ref 381] h Q
  have J : ∀ (v2 : Int32) (ev2 : v2 = ((if (V_201 (mx_i h 382) i1) = 0 then 1 else (if (V_191 (mx_i h 382) i2 (0 : Int32) (5 : Int32)) = 0 then 2 else 0)) : Int32)), mx_wp (d + 2) 246 15 [some (.ref 381), some (.int i1), some (.int i2), none] [.int v2, .ref 381] h Q := by
    intro v2 ev2
    have H := H v2 ev2
    refine wp_steps (i' := 16) (ls' := [some (.ref 381), some (.int i1), some (.int i2), none]) (st' := []) (h' := mx_wi h 381 0 v2) (P := ((mxT 381).1 = 11 ∧ mxG h) ∧ True) 1 rfl rfl ⟨⟨(congrArg Prod.fst sT_381), G⟩, trivial⟩ ?_
    obtain ⟨h3, e4⟩ : ∃ z9, z9 = mx_wi h 381 0 v2 := ⟨_, rfl⟩
    rw [← e4]
    have H := H h3 e4
    have G5 : mxG h3 := e4 ▸ mxG_wi G
    refine wp_steps (i' := 18) (ls' := [some (.ref 381), some (.int i1), some (.int i2), none]) (st' := [.int (mx_i h3 381 0)]) (h' := h3) (P := ((mxT 381).1 = 11 ∧ mxG h3) ∧ True) 2 rfl rfl ⟨⟨(congrArg Prod.fst sT_381), G5⟩, trivial⟩ ?_
    refine wp_br (P := True) (c := (mx_i h3 381 0) ≤ 0) (t := 21) (st' := []) rfl rfl trivial (fun c6 => ?_) (fun c6 => ?_)
    · have c6 := Int32.not_lt.mpr c6
      have H := H.2 c6
      refine wp_steps (i' := 24) (ls' := [some (.ref 381), some (.int i1), some (.int i2), none]) (st' := [.int 3, .int i1, .ref 381]) (h' := h3) (P := True) 3 rfl rfl trivial ?_
      obtain ⟨o7, H⟩ := H
      refine wp_call (b := false) (y' := 198) (as := [.ref 381, .int i1, .int 3]) (rest := []) (P := ((mxT 381).1 = mxRc 198 ∧ mxG h3)) rfl (by with_unfolding_all rfl) ⟨(congrArg Prod.fst sT_381), G5⟩ (Nat.le_of_ble_eq_true rfl) (sp_198 G5 o7 ?_)
      show mx_wp (d + 2) 246 25 [some (.ref 381), some (.int i1), some (.int i2), none] [.int (V_198 (mx_i h3 382) i1 (3 : Int32))] h3 Q
      refine wp_steps (i' := 28) (ls' := [some (.ref 381), some (.int i1), some (.int i2), some (.int (V_198 (mx_i h3 382) i1 (3 : Int32)))]) (st' := [.int 4, .int i2]) (h' := h3) (P := True) 3 rfl rfl trivial ?_
      refine wp_br (P := True) (c := 4 ≤ i2) (t := 34) (st' := []) rfl rfl trivial (fun c8 => ?_) (fun c8 => ?_)
      · have c8 := Int32.not_lt.mpr c8
        have H := H.2 c8
        refine wp_steps (i' := 36) (ls' := [some (.ref 381), some (.int i1), some (.int i2), some (.int (V_198 (mx_i h3 382) i1 (3 : Int32)))]) (st' := [.int 4, .int i2]) (h' := h3) (P := True) 2 rfl rfl trivial ?_
        refine wp_br (P := True) (c := ¬ i2 = 4) (t := 46) (st' := []) rfl rfl trivial (fun c9 => ?_) (fun c9 => ?_)
        · skip
          have H := H.2 c9
          refine wp_steps (i' := 47) (ls' := [some (.ref 381), some (.int i1), some (.int i2), some (.int (V_198 (mx_i h3 382) i1 (3 : Int32)))]) (st' := [.int (V_198 (mx_i h3 382) i1 (3 : Int32))]) (h' := h3) (P := True) 1 rfl rfl trivial ?_
          have J : ∀ (v10 : Int32) (ev10 : v10 = ((if (V_198 (mx_i h3 382) i1 (3 : Int32)) = 0 then (V_196 (mx_i h3 382) (V_198 (mx_i h3 382) i1 (4 : Int32)) (2 : Int32)) else (if (V_198 (mx_i h3 382) i1 (3 : Int32)) = 1 then (V_198 (mx_i h3 382) i1 (5 : Int32)) else (-1))) : Int32)), mx_wp (d + 2) 246 65 [some (.ref 381), some (.int i1), some (.int i2), some (.int (V_198 (mx_i h3 382) i1 (3 : Int32)))] [.int v10] h3 Q := by
            intro v10 ev10
            have H := H.2 v10 ev10
            exact wp_end (o := .inl (some (.int v10))) (h' := h3) (P := True) rfl rfl trivial H
          have H := H.1
          refine wp_br (P := True) (c := ¬ (V_198 (mx_i h3 382) i1 (3 : Int32)) = 0) (t := 56) (st' := []) rfl rfl trivial (fun c11 => ?_) (fun c11 => ?_)
          · skip
            have H := H.2 c11
            refine wp_steps (i' := 58) (ls' := [some (.ref 381), some (.int i1), some (.int i2), some (.int (V_198 (mx_i h3 382) i1 (3 : Int32)))]) (st' := [.int 1, .int (V_198 (mx_i h3 382) i1 (3 : Int32))]) (h' := h3) (P := True) 2 rfl rfl trivial ?_
            refine wp_br (P := True) (c := ¬ (V_198 (mx_i h3 382) i1 (3 : Int32)) = 1) (t := 64) (st' := []) rfl rfl trivial (fun c12 => ?_) (fun c12 => ?_)
            · skip
              refine wp_steps (i' := 65) (ls' := [some (.ref 381), some (.int i1), some (.int i2), some (.int (V_198 (mx_i h3 382) i1 (3 : Int32)))]) (st' := [.int (-1)]) (h' := h3) (P := True) 1 rfl rfl trivial ?_
              exact J _ (by rw [if_neg c11, if_neg c12])
            · have c12 := Decidable.of_not_not c12
              have H := H.1 c12
              refine wp_steps (i' := 62) (ls' := [some (.ref 381), some (.int i1), some (.int i2), some (.int (V_198 (mx_i h3 382) i1 (3 : Int32)))]) (st' := [.int 5, .int i1, .ref 381]) (h' := h3) (P := True) 3 rfl rfl trivial ?_
              obtain ⟨o13, H⟩ := H
              refine wp_call (b := false) (y' := 198) (as := [.ref 381, .int i1, .int 5]) (rest := []) (P := ((mxT 381).1 = mxRc 198 ∧ mxG h3)) rfl (by with_unfolding_all rfl) ⟨(congrArg Prod.fst sT_381), G5⟩ (Nat.le_of_ble_eq_true rfl) (sp_198 G5 o13 ?_)
              show mx_wp (d + 2) 246 63 [some (.ref 381), some (.int i1), some (.int i2), some (.int (V_198 (mx_i h3 382) i1 (3 : Int32)))] [.int (V_198 (mx_i h3 382) i1 (5 : Int32))] h3 Q
              refine wp_J (j := 65) (st' := [.int (V_198 (mx_i h3 382) i1 (5 : Int32))]) rfl rfl ?_
              exact J _ (by rw [if_neg c11, if_pos c12])
          · have c11 := Decidable.of_not_not c11
            have H := H.1 c11
            refine wp_steps (i' := 52) (ls' := [some (.ref 381), some (.int i1), some (.int i2), some (.int (V_198 (mx_i h3 382) i1 (3 : Int32)))]) (st' := [.int 4, .int i1, .ref 381, .ref 381]) (h' := h3) (P := True) 4 rfl rfl trivial ?_
            obtain ⟨o14, H⟩ := H
            refine wp_call (b := false) (y' := 198) (as := [.ref 381, .int i1, .int 4]) (rest := [.ref 381]) (P := ((mxT 381).1 = mxRc 198 ∧ mxG h3)) rfl (by with_unfolding_all rfl) ⟨(congrArg Prod.fst sT_381), G5⟩ (Nat.le_of_ble_eq_true rfl) (sp_198 G5 o14 ?_)
            show mx_wp (d + 2) 246 53 [some (.ref 381), some (.int i1), some (.int i2), some (.int (V_198 (mx_i h3 382) i1 (3 : Int32)))] [.int (V_198 (mx_i h3 382) i1 (4 : Int32)), .ref 381] h3 Q
            refine wp_steps (i' := 54) (ls' := [some (.ref 381), some (.int i1), some (.int i2), some (.int (V_198 (mx_i h3 382) i1 (3 : Int32)))]) (st' := [.int 2, .int (V_198 (mx_i h3 382) i1 (4 : Int32)), .ref 381]) (h' := h3) (P := True) 1 rfl rfl trivial ?_
            obtain ⟨o15, H⟩ := H
            refine wp_call (b := false) (y' := 196) (as := [.ref 381, .int (V_198 (mx_i h3 382) i1 (4 : Int32)), .int 2]) (rest := []) (P := ((mxT 381).1 = mxRc 196 ∧ mxG h3)) rfl (by with_unfolding_all rfl) ⟨(congrArg Prod.fst sT_381), G5⟩ (Nat.le_of_ble_eq_true rfl) (sp_196 G5 o15 ?_)
            show mx_wp (d + 2) 246 55 [some (.ref 381), some (.int i1), some (.int i2), some (.int (V_198 (mx_i h3 382) i1 (3 : Int32)))] [.int (V_196 (mx_i h3 382) (V_198 (mx_i h3 382) i1 (4 : Int32)) (2 : Int32))] h3 Q
            refine wp_J (j := 65) (st' := [.int (V_196 (mx_i h3 382) (V_198 (mx_i h3 382) i1 (4 : Int32)) (2 : Int32))]) rfl rfl ?_
            exact J _ (by rw [if_pos c11])
        · have c9 := Decidable.of_not_not c9
          have H := H.1 c9
          refine wp_steps (i' := 38) (ls' := [some (.ref 381), some (.int i1), some (.int i2), some (.int (V_198 (mx_i h3 382) i1 (3 : Int32)))]) (st' := [.int (V_198 (mx_i h3 382) i1 (3 : Int32))]) (h' := h3) (P := True) 1 rfl rfl trivial ?_
          have J : ∀ (v16 : Int32) (ev16 : v16 = ((if (V_198 (mx_i h3 382) i1 (3 : Int32)) = 0 then (V_198 (mx_i h3 382) i1 (4 : Int32)) else (-1)) : Int32)), mx_wp (d + 2) 246 45 [some (.ref 381), some (.int i1), some (.int i2), some (.int (V_198 (mx_i h3 382) i1 (3 : Int32)))] [.int v16] h3 Q := by
            intro v16 ev16
            have H := H.2 v16 ev16
            exact wp_end (o := .inl (some (.int v16))) (h' := h3) (P := True) rfl rfl trivial H
          have H := H.1
          refine wp_br (P := True) (c := ¬ (V_198 (mx_i h3 382) i1 (3 : Int32)) = 0) (t := 44) (st' := []) rfl rfl trivial (fun c17 => ?_) (fun c17 => ?_)
          · skip
            refine wp_steps (i' := 45) (ls' := [some (.ref 381), some (.int i1), some (.int i2), some (.int (V_198 (mx_i h3 382) i1 (3 : Int32)))]) (st' := [.int (-1)]) (h' := h3) (P := True) 1 rfl rfl trivial ?_
            exact J _ (by rw [if_neg c17])
          · have c17 := Decidable.of_not_not c17
            have H := H.1 c17
            refine wp_steps (i' := 42) (ls' := [some (.ref 381), some (.int i1), some (.int i2), some (.int (V_198 (mx_i h3 382) i1 (3 : Int32)))]) (st' := [.int 4, .int i1, .ref 381]) (h' := h3) (P := True) 3 rfl rfl trivial ?_
            obtain ⟨o18, H⟩ := H
            refine wp_call (b := false) (y' := 198) (as := [.ref 381, .int i1, .int 4]) (rest := []) (P := ((mxT 381).1 = mxRc 198 ∧ mxG h3)) rfl (by with_unfolding_all rfl) ⟨(congrArg Prod.fst sT_381), G5⟩ (Nat.le_of_ble_eq_true rfl) (sp_198 G5 o18 ?_)
            show mx_wp (d + 2) 246 43 [some (.ref 381), some (.int i1), some (.int i2), some (.int (V_198 (mx_i h3 382) i1 (3 : Int32)))] [.int (V_198 (mx_i h3 382) i1 (4 : Int32))] h3 Q
            refine wp_J (j := 45) (st' := [.int (V_198 (mx_i h3 382) i1 (4 : Int32))]) rfl rfl ?_
            exact J _ (by rw [if_pos c17])
      · have c8 := Int32.not_le.mp c8
        have H := H.1 c8
        refine wp_steps (i' := 32) (ls' := [some (.ref 381), some (.int i1), some (.int i2), some (.int (V_198 (mx_i h3 382) i1 (3 : Int32)))]) (st' := [.int i2, .int i1, .ref 381]) (h' := h3) (P := True) 3 rfl rfl trivial ?_
        obtain ⟨o19, H⟩ := H
        refine wp_call (b := false) (y' := 198) (as := [.ref 381, .int i1, .int i2]) (rest := []) (P := ((mxT 381).1 = mxRc 198 ∧ mxG h3)) rfl (by with_unfolding_all rfl) ⟨(congrArg Prod.fst sT_381), G5⟩ (Nat.le_of_ble_eq_true rfl) (sp_198 G5 o19 ?_)
        show mx_wp (d + 2) 246 33 [some (.ref 381), some (.int i1), some (.int i2), some (.int (V_198 (mx_i h3 382) i1 (3 : Int32)))] [.int (V_198 (mx_i h3 382) i1 i2)] h3 Q
        exact wp_end (o := .inl (some (.int (V_198 (mx_i h3 382) i1 i2)))) (h' := h3) (P := True) rfl rfl trivial H
    · have c6 := Int32.not_le.mp c6
      have H := H.1 c6
      refine wp_steps (i' := 20) (ls' := [some (.ref 381), some (.int i1), some (.int i2), none]) (st' := [.int 0]) (h' := h3) (P := True) 1 rfl rfl trivial ?_
      exact wp_end (o := .inl (some (.int 0))) (h' := h3) (P := True) rfl rfl trivial H
  refine wp_br (P := True) (c := ¬ (V_201 (mx_i h 382) i1) = 0) (t := 7) (st' := [.ref 381]) rfl rfl trivial (fun c20 => ?_) (fun c20 => ?_)
  · skip
    refine wp_steps (i' := 10) (ls' := [some (.ref 381), some (.int i1), some (.int i2), none]) (st' := [.int 5, .int 0, .int i2, .ref 381]) (h' := h) (P := True) 3 rfl rfl trivial ?_
    refine wp_call (b := false) (y' := 191) (as := [.int i2, .int 0, .int 5]) (rest := [.ref 381]) (P := True) rfl (by with_unfolding_all rfl) trivial (Nat.le_of_ble_eq_true rfl) (sp_191 G ?_)
    show mx_wp (d + 2) 246 11 [some (.ref 381), some (.int i1), some (.int i2), none] [.int (V_191 (mx_i h 382) i2 (0 : Int32) (5 : Int32)), .ref 381] h Q
    refine wp_br (P := True) (c := ¬ (V_191 (mx_i h 382) i2 (0 : Int32) (5 : Int32)) = 0) (t := 14) (st' := [.ref 381]) rfl rfl trivial (fun c21 => ?_) (fun c21 => ?_)
    · skip
      refine wp_steps (i' := 15) (ls' := [some (.ref 381), some (.int i1), some (.int i2), none]) (st' := [.int 0, .ref 381]) (h' := h) (P := True) 1 rfl rfl trivial ?_
      exact J _ (by rw [if_neg c20, if_neg c21])
    · have c21 := Decidable.of_not_not c21
      refine wp_steps (i' := 13) (ls' := [some (.ref 381), some (.int i1), some (.int i2), none]) (st' := [.int 2, .ref 381]) (h' := h) (P := True) 1 rfl rfl trivial ?_
      refine wp_J (j := 15) (st' := [.int 2, .ref 381]) rfl rfl ?_
      exact J _ (by rw [if_neg c20, if_pos c21])
  · have c20 := Decidable.of_not_not c20
    refine wp_steps (i' := 6) (ls' := [some (.ref 381), some (.int i1), some (.int i2), none]) (st' := [.int 1, .ref 381]) (h' := h) (P := True) 1 rfl rfl trivial ?_
    refine wp_J (j := 15) (st' := [.int 1, .ref 381]) rfl rfl ?_
    exact J _ (by rw [if_pos c20])
def V_246 (h : mxH) (i1 : Int32) (i2 : Int32) : Int32 := (if 0 < (mx_i (mx_wi h 381 0 ((if (V_201 (mx_i h 382) i1) = 0 then 1 else (if (V_191 (mx_i h 382) i2 (0 : Int32) (5 : Int32)) = 0 then 2 else 0)) : Int32)) 381 0) then 0 else (if i2 < 4 then (V_198 (mx_i (mx_wi h 381 0 ((if (V_201 (mx_i h 382) i1) = 0 then 1 else (if (V_191 (mx_i h 382) i2 (0 : Int32) (5 : Int32)) = 0 then 2 else 0)) : Int32)) 382) i1 i2) else (if i2 = 4 then ((if (V_198 (mx_i (mx_wi h 381 0 ((if (V_201 (mx_i h 382) i1) = 0 then 1 else (if (V_191 (mx_i h 382) i2 (0 : Int32) (5 : Int32)) = 0 then 2 else 0)) : Int32)) 382) i1 (3 : Int32)) = 0 then (V_198 (mx_i (mx_wi h 381 0 ((if (V_201 (mx_i h 382) i1) = 0 then 1 else (if (V_191 (mx_i h 382) i2 (0 : Int32) (5 : Int32)) = 0 then 2 else 0)) : Int32)) 382) i1 (4 : Int32)) else (-1)) : Int32) else ((if (V_198 (mx_i (mx_wi h 381 0 ((if (V_201 (mx_i h 382) i1) = 0 then 1 else (if (V_191 (mx_i h 382) i2 (0 : Int32) (5 : Int32)) = 0 then 2 else 0)) : Int32)) 382) i1 (3 : Int32)) = 0 then (V_196 (mx_i (mx_wi h 381 0 ((if (V_201 (mx_i h 382) i1) = 0 then 1 else (if (V_191 (mx_i h 382) i2 (0 : Int32) (5 : Int32)) = 0 then 2 else 0)) : Int32)) 382) (V_198 (mx_i (mx_wi h 381 0 ((if (V_201 (mx_i h 382) i1) = 0 then 1 else (if (V_191 (mx_i h 382) i2 (0 : Int32) (5 : Int32)) = 0 then 2 else 0)) : Int32)) 382) i1 (4 : Int32)) (2 : Int32)) else (if (V_198 (mx_i (mx_wi h 381 0 ((if (V_201 (mx_i h 382) i1) = 0 then 1 else (if (V_191 (mx_i h 382) i2 (0 : Int32) (5 : Int32)) = 0 then 2 else 0)) : Int32)) 382) i1 (3 : Int32)) = 1 then (V_198 (mx_i (mx_wi h 381 0 ((if (V_201 (mx_i h 382) i1) = 0 then 1 else (if (V_191 (mx_i h 382) i2 (0 : Int32) (5 : Int32)) = 0 then 2 else 0)) : Int32)) 382) i1 (5 : Int32)) else (-1))) : Int32))))
def W_246 (h : mxH) (i1 : Int32) (i2 : Int32) : mxH := (mx_wi h 381 0 ((if (V_201 (mx_i h 382) i1) = 0 then 1 else (if (V_191 (mx_i h 382) i2 (0 : Int32) (5 : Int32)) = 0 then 2 else 0)) : Int32))
theorem KW_246 {h : mxH} {i1 : Int32} {i2 : Int32} : mxK h (W_246 h i1 i2) := by
  unfold W_246
  repeat' (first | with_reducible exact mxK_rfl | with_reducible exact mxK_wi | with_reducible exact mxK_wrow | with_reducible refine mxK_ite ?_ ?_ | with_reducible refine mxK_tr ?_ mxK_wi | with_reducible refine mxK_tr ?_ mxK_wrow)
theorem sp_246 {d : Nat} {h : mxH} {Q : mxO → mxH → Prop} {i1 : Int32} {i2 : Int32} (G : mxG h)  (x0 : ((V_191 (mx_i h 382) i1 (0 : Int32) ((mx_i h 382 4) - 1)) = 0 ∨ (V_191 (mx_i h 382) i1 (0 : Int32) ((mx_i h 382 4) - 1)) = 1)) (x1 : ((0 < (mx_i (mx_wi h 381 0 ((if (V_201 (mx_i h 382) i1) = 0 then 1 else (if (V_191 (mx_i h 382) i2 (0 : Int32) (5 : Int32)) = 0 then 2 else 0)) : Int32)) 381 0) → True) ∧ (¬ 0 < (mx_i (mx_wi h 381 0 ((if (V_201 (mx_i h 382) i1) = 0 then 1 else (if (V_191 (mx_i h 382) i2 (0 : Int32) (5 : Int32)) = 0 then 2 else 0)) : Int32)) 381 0) → (vp_in ((69 + (6 * i1)) + (3 : Int32)) 769 ∧ ((i2 < 4 → (vp_in ((69 + (6 * i1)) + i2) 769 ∧ True)) ∧ (¬ i2 < 4 → ((i2 = 4 → ((((V_198 (mx_i (mx_wi h 381 0 ((if (V_201 (mx_i h 382) i1) = 0 then 1 else (if (V_191 (mx_i h 382) i2 (0 : Int32) (5 : Int32)) = 0 then 2 else 0)) : Int32)) 382) i1 (3 : Int32)) = 0 → (vp_in ((69 + (6 * i1)) + (4 : Int32)) 769 ∧ True)) ∧ (¬ (V_198 (mx_i (mx_wi h 381 0 ((if (V_201 (mx_i h 382) i1) = 0 then 1 else (if (V_191 (mx_i h 382) i2 (0 : Int32) (5 : Int32)) = 0 then 2 else 0)) : Int32)) 382) i1 (3 : Int32)) = 0 → True)) ∧ True)) ∧ (¬ i2 = 4 → ((((V_198 (mx_i (mx_wi h 381 0 ((if (V_201 (mx_i h 382) i1) = 0 then 1 else (if (V_191 (mx_i h 382) i2 (0 : Int32) (5 : Int32)) = 0 then 2 else 0)) : Int32)) 382) i1 (3 : Int32)) = 0 → (vp_in ((69 + (6 * i1)) + (4 : Int32)) 769 ∧ (vp_in ((33 + (6 * (V_198 (mx_i (mx_wi h 381 0 ((if (V_201 (mx_i h 382) i1) = 0 then 1 else (if (V_191 (mx_i h 382) i2 (0 : Int32) (5 : Int32)) = 0 then 2 else 0)) : Int32)) 382) i1 (4 : Int32)))) + (2 : Int32)) 769 ∧ True))) ∧ (¬ (V_198 (mx_i (mx_wi h 381 0 ((if (V_201 (mx_i h 382) i1) = 0 then 1 else (if (V_191 (mx_i h 382) i2 (0 : Int32) (5 : Int32)) = 0 then 2 else 0)) : Int32)) 382) i1 (3 : Int32)) = 0 → (((V_198 (mx_i (mx_wi h 381 0 ((if (V_201 (mx_i h 382) i1) = 0 then 1 else (if (V_191 (mx_i h 382) i2 (0 : Int32) (5 : Int32)) = 0 then 2 else 0)) : Int32)) 382) i1 (3 : Int32)) = 1 → (vp_in ((69 + (6 * i1)) + (5 : Int32)) 769 ∧ True)) ∧ (¬ (V_198 (mx_i (mx_wi h 381 0 ((if (V_201 (mx_i h 382) i1) = 0 then 1 else (if (V_191 (mx_i h 382) i2 (0 : Int32) (5 : Int32)) = 0 then 2 else 0)) : Int32)) 382) i1 (3 : Int32)) = 1 → True)))) ∧ True))))))))) (k : Q (.inl (some (.int (V_246 h i1 i2)))) (W_246 h i1 i2)) : mx_wp (d + 2) 246 0 (mx_fr 246 [.ref 381, .int i1, .int i2]) [] h Q := by
  unfold V_246 W_246 at k
  have hob : (((V_191 (mx_i h 382) i1 (0 : Int32) ((mx_i h 382 4) - 1)) = 0 ∨ (V_191 (mx_i h 382) i1 (0 : Int32) ((mx_i h 382 4) - 1)) = 1) ∧ ((0 < (mx_i (mx_wi h 381 0 ((if (V_201 (mx_i h 382) i1) = 0 then 1 else (if (V_191 (mx_i h 382) i2 (0 : Int32) (5 : Int32)) = 0 then 2 else 0)) : Int32)) 381 0) → True) ∧ (¬ 0 < (mx_i (mx_wi h 381 0 ((if (V_201 (mx_i h 382) i1) = 0 then 1 else (if (V_191 (mx_i h 382) i2 (0 : Int32) (5 : Int32)) = 0 then 2 else 0)) : Int32)) 381 0) → (vp_in ((69 + (6 * i1)) + (3 : Int32)) 769 ∧ ((i2 < 4 → (vp_in ((69 + (6 * i1)) + i2) 769 ∧ True)) ∧ (¬ i2 < 4 → ((i2 = 4 → ((((V_198 (mx_i (mx_wi h 381 0 ((if (V_201 (mx_i h 382) i1) = 0 then 1 else (if (V_191 (mx_i h 382) i2 (0 : Int32) (5 : Int32)) = 0 then 2 else 0)) : Int32)) 382) i1 (3 : Int32)) = 0 → (vp_in ((69 + (6 * i1)) + (4 : Int32)) 769 ∧ True)) ∧ (¬ (V_198 (mx_i (mx_wi h 381 0 ((if (V_201 (mx_i h 382) i1) = 0 then 1 else (if (V_191 (mx_i h 382) i2 (0 : Int32) (5 : Int32)) = 0 then 2 else 0)) : Int32)) 382) i1 (3 : Int32)) = 0 → True)) ∧ True)) ∧ (¬ i2 = 4 → ((((V_198 (mx_i (mx_wi h 381 0 ((if (V_201 (mx_i h 382) i1) = 0 then 1 else (if (V_191 (mx_i h 382) i2 (0 : Int32) (5 : Int32)) = 0 then 2 else 0)) : Int32)) 382) i1 (3 : Int32)) = 0 → (vp_in ((69 + (6 * i1)) + (4 : Int32)) 769 ∧ (vp_in ((33 + (6 * (V_198 (mx_i (mx_wi h 381 0 ((if (V_201 (mx_i h 382) i1) = 0 then 1 else (if (V_191 (mx_i h 382) i2 (0 : Int32) (5 : Int32)) = 0 then 2 else 0)) : Int32)) 382) i1 (4 : Int32)))) + (2 : Int32)) 769 ∧ True))) ∧ (¬ (V_198 (mx_i (mx_wi h 381 0 ((if (V_201 (mx_i h 382) i1) = 0 then 1 else (if (V_191 (mx_i h 382) i2 (0 : Int32) (5 : Int32)) = 0 then 2 else 0)) : Int32)) 382) i1 (3 : Int32)) = 0 → (((V_198 (mx_i (mx_wi h 381 0 ((if (V_201 (mx_i h 382) i1) = 0 then 1 else (if (V_191 (mx_i h 382) i2 (0 : Int32) (5 : Int32)) = 0 then 2 else 0)) : Int32)) 382) i1 (3 : Int32)) = 1 → (vp_in ((69 + (6 * i1)) + (5 : Int32)) 769 ∧ True)) ∧ (¬ (V_198 (mx_i (mx_wi h 381 0 ((if (V_201 (mx_i h 382) i1) = 0 then 1 else (if (V_191 (mx_i h 382) i2 (0 : Int32) (5 : Int32)) = 0 then 2 else 0)) : Int32)) 382) i1 (3 : Int32)) = 1 → True)))) ∧ True))))))))) := ⟨x0, x1⟩
  refine tr_246_0 G  ?_
  obtain ⟨q0, hob⟩ := hob
  refine ⟨q0, ?_⟩
  intro v2 ev2
  subst ev2
  intro h3 eh3
  subst eh3
  refine ⟨fun c9 => ?_, fun c9 => ?_⟩
  · try simp only [if_pos c9] at k
    have hob := hob.1 c9
    exact k
  · try simp only [if_neg c9] at k
    have hob := hob.2 c9
    obtain ⟨q0, hob⟩ := hob
    refine ⟨q0, ?_⟩
    refine ⟨fun c9 => ?_, fun c9 => ?_⟩
    · try simp only [if_pos c9] at k
      have hob := hob.1 c9
      obtain ⟨q0, hob⟩ := hob
      refine ⟨q0, ?_⟩
      exact k
    · try simp only [if_neg c9] at k
      have hob := hob.2 c9
      refine ⟨fun c9 => ?_, fun c9 => ?_⟩
      · try simp only [if_pos c9] at k
        have hob := hob.1 c9
        obtain ⟨q0, hob⟩ := hob
        refine ⟨q0, ?_⟩
        intro v16 ev16
        subst ev16
        exact k
      · try simp only [if_neg c9] at k
        have hob := hob.2 c9
        obtain ⟨q0, hob⟩ := hob
        refine ⟨q0, ?_⟩
        intro v10 ev10
        subst ev10
        exact k
/-! 247: StoneBacksModel.thoseAt(I)I -/
def H_247_4 (d : Nat) (h : mxH) (i1 : Int32) (i2 : Int32) (i3 : Int32) (Q : mxO → mxH → Prop) : Prop := mx_wp d 247 4 [some (.ref 381), some (.int i1), some (.int i2), some (.int i3)] [] h Q
set_option maxRecDepth 8000 in
theorem tr_247_0 {d : Nat} {h : mxH} {Q : mxO → mxH → Prop} {i1 : Int32} (G : mxG h)  (H : H_247_4 (d + 1) h i1 0 0 Q) : mx_wp (d + 1) 247 0 (mx_fr 247 [.ref 381, .int i1]) [] h Q := by
  show mx_wp (d + 1) 247 0 [some (.ref 381), some (.int i1), none, none] [] h Q
  refine wp_steps (i' := 4) (ls' := [some (.ref 381), some (.int i1), some (.int 0), some (.int 0)]) (st' := []) (h' := h) (P := True) 4 rfl rfl trivial ?_
  exact H 
set_option maxRecDepth 8000 in
theorem tr_247_4 {d : Nat} {h : mxH} {Q : mxO → mxH → Prop}  {i1 : Int32} {i2 : Int32} {i3 : Int32} (G : mxG h)  (H : ((i3 < (mx_i h 382 3) → (vp_in ((33 + (6 * i3)) + (2 : Int32)) 769 ∧ (∀ (v3 : Int32), v3 = ((if (V_196 (mx_i h 382) i3 (2 : Int32)) = i1 then ((1 : Int32) <<< (i3 &&& 31)) else 0) : Int32) → H_247_4 (d + 1) h i1 (i2 ||| v3) (i3 + 1) Q))) ∧ (¬ i3 < (mx_i h 382 3) → Q (.inl (some (.int i2))) h))) : H_247_4 (d + 1) h i1 i2 i3 Q := by
  show mx_wp (d + 1) 247 4 [some (.ref 381), some (.int i1), some (.int i2), some (.int i3)] [] h Q
  refine wp_steps (i' := 9) (ls' := [some (.ref 381), some (.int i1), some (.int i2), some (.int i3)]) (st' := [.int (mx_i h 382 3), .int i3]) (h' := h) (P := ((mxT 381).1 = 11 ∧ mxG h) ∧ (((mxT 382).1 = 50 ∧ mxG h) ∧ vp_in 3 (mxT 382).2) ∧ True) 5 rfl rfl ⟨⟨(congrArg Prod.fst sT_381), G⟩, (cA sT_382 G (vpl rfl)), trivial⟩ ?_
  refine wp_br (P := True) (c := (mx_i h 382 3) ≤ i3) (t := 26) (st' := []) rfl rfl trivial (fun c1 => ?_) (fun c1 => ?_)
  · have c1 := Int32.not_lt.mpr c1
    have H := H.2 c1
    refine wp_steps (i' := 27) (ls' := [some (.ref 381), some (.int i1), some (.int i2), some (.int i3)]) (st' := [.int i2]) (h' := h) (P := True) 1 rfl rfl trivial ?_
    exact wp_end (o := .inl (some (.int i2))) (h' := h) (P := True) rfl rfl trivial H
  · have c1 := Int32.not_le.mp c1
    have H := H.1 c1
    refine wp_steps (i' := 14) (ls' := [some (.ref 381), some (.int i1), some (.int i2), some (.int i3)]) (st' := [.int 2, .int i3, .ref 381, .int i2]) (h' := h) (P := True) 4 rfl rfl trivial ?_
    obtain ⟨o2, H⟩ := H
    refine wp_call (b := false) (y' := 196) (as := [.ref 381, .int i3, .int 2]) (rest := [.int i2]) (P := ((mxT 381).1 = mxRc 196 ∧ mxG h)) rfl (by with_unfolding_all rfl) ⟨(congrArg Prod.fst sT_381), G⟩ (Nat.le_of_ble_eq_true rfl) (sp_196 G o2 ?_)
    show mx_wp (d + 1) 247 15 [some (.ref 381), some (.int i1), some (.int i2), some (.int i3)] [.int (V_196 (mx_i h 382) i3 (2 : Int32)), .int i2] h Q
    refine wp_steps (i' := 16) (ls' := [some (.ref 381), some (.int i1), some (.int i2), some (.int i3)]) (st' := [.int i1, .int (V_196 (mx_i h 382) i3 (2 : Int32)), .int i2]) (h' := h) (P := True) 1 rfl rfl trivial ?_
    have J : ∀ (v3 : Int32) (ev3 : v3 = ((if (V_196 (mx_i h 382) i3 (2 : Int32)) = i1 then ((1 : Int32) <<< (i3 &&& 31)) else 0) : Int32)), mx_wp (d + 1) 247 22 [some (.ref 381), some (.int i1), some (.int i2), some (.int i3)] [.int v3, .int i2] h Q := by
      intro v3 ev3
      have H := H v3 ev3
      refine wp_steps (i' := 25) (ls' := [some (.ref 381), some (.int i1), some (.int (i2 ||| v3)), some (.int (i3 + 1))]) (st' := []) (h' := h) (P := True) 3 rfl rfl trivial ?_
      refine wp_J (j := 4) (st' := []) rfl rfl ?_
      exact H 
    refine wp_br (P := True) (c := ¬ (V_196 (mx_i h 382) i3 (2 : Int32)) = i1) (t := 21) (st' := [.int i2]) rfl rfl trivial (fun c4 => ?_) (fun c4 => ?_)
    · skip
      refine wp_steps (i' := 22) (ls' := [some (.ref 381), some (.int i1), some (.int i2), some (.int i3)]) (st' := [.int 0, .int i2]) (h' := h) (P := True) 1 rfl rfl trivial ?_
      exact J _ (by rw [if_neg c4])
    · have c4 := Decidable.of_not_not c4
      refine wp_steps (i' := 20) (ls' := [some (.ref 381), some (.int i1), some (.int i2), some (.int i3)]) (st' := [.int ((1 : Int32) <<< (i3 &&& 31)), .int i2]) (h' := h) (P := True) 3 rfl rfl trivial ?_
      refine wp_J (j := 22) (st' := [.int ((1 : Int32) <<< (i3 &&& 31)), .int i2]) rfl rfl ?_
      exact J _ (by rw [if_pos c4])
def F_247_4 (r : Nat → Int32) (i1 : Int32) (z : Nat) (s : Int32) : Int32 := (s ||| ((if (V_196 (r) (nI z) (2 : Int32)) = i1 then ((1 : Int32) <<< ((nI z) &&& 31)) else 0) : Int32))
theorem lp_247_4 {d : Nat} {h : mxH} {Q : mxO → mxH → Prop} {i1 : Int32} {s0 : Int32} {n : Nat} (z0 : Nat) (G : mxG h)  (hB : (mx_i h 382 3) = nI n) (hn : n < 2147483648) (hz : z0 ≤ n) (ob : ∀ z, z0 ≤ z → z < n → (vp_in ((33 + (6 * (nI z))) + (2 : Int32)) 769 ∧ True)) (k : Q (.inl (some (.int (fz (F_247_4 (mx_i h 382) i1) z0 n s0)))) h) : H_247_4 (d + 1) h i1 s0 (nI z0) Q := by
  have L : ∀ (j z : Nat), z0 ≤ z → z + j = n → H_247_4 (d + 1) h i1 (fz (F_247_4 (mx_i h 382) i1) z0 z s0) (nI z) Q := by
    intro j
    induction j with
    | zero =>
      intro z hz0 hzn
      have hzn : z = n := by omega
      subst hzn
      refine tr_247_4 G  ⟨fun c9 => absurd (hB ▸ c9) Int32.lt_irrefl, fun c9 => k⟩
    | succ j ih =>
      intro z hz0 hzn
      have hih := ih (z + 1) (by omega) (by omega)
      rw [nI_succ, fz_s hz0] at hih
      have hob := ob z hz0 (by omega)
      refine tr_247_4 G  ⟨fun c9 => ?_, fun c9 => absurd (hB.symm ▸ nI_lt (by omega) hn) c9⟩
      obtain ⟨q0, hob⟩ := hob
      refine ⟨q0, ?_⟩
      intro v3 ev3
      subst ev3
      exact hih
  have L0 := L (n - z0) z0 (Nat.le_refl _) (by omega)
  simp only [fz_0] at L0
  exact L0
def V_247 (r : Nat → Int32) (i1 : Int32) : Int32 := (fo (F_247_4 (r) i1) ((r 3)).toNatClampNeg 0)
theorem sp_247 {d : Nat} {h : mxH} {Q : mxO → mxH → Prop} {i1 : Int32} (G : mxG h)  (hcb : cB (mx_i h 382 3) 6) (k : Q (.inl (some (.int (V_247 (mx_i h 382) i1)))) h) : mx_wp (d + 1) 247 0 (mx_fr 247 [.ref 381, .int i1]) [] h Q := by
  unfold V_247 at k
  obtain ⟨n, hn, hB⟩ := hcb
  rw [hB, nI_clamp (by omega)] at k
  refine tr_247_0 G  ?_
  refine lp_247_4 (s0 := 0) 0 G  hB (by omega) (Nat.zero_le _) (fun z _ hz => ⟨vpU (by omega), trivial⟩) ?_
  simp only [fz_fo]
  exact k
/-! 248: StoneBacksModel.stonesAt(I)I -/
def H_248_4 (d : Nat) (h : mxH) (i1 : Int32) (i2 : Int32) (i3 : Int32) (Q : mxO → mxH → Prop) : Prop := mx_wp d 248 4 [some (.ref 381), some (.int i1), some (.int i2), some (.int i3)] [] h Q
set_option maxRecDepth 8000 in
theorem tr_248_0 {d : Nat} {h : mxH} {Q : mxO → mxH → Prop} {i1 : Int32} (G : mxG h)  (H : H_248_4 (d + 1) h i1 0 0 Q) : mx_wp (d + 1) 248 0 (mx_fr 248 [.ref 381, .int i1]) [] h Q := by
  show mx_wp (d + 1) 248 0 [some (.ref 381), some (.int i1), none, none] [] h Q
  refine wp_steps (i' := 4) (ls' := [some (.ref 381), some (.int i1), some (.int 0), some (.int 0)]) (st' := []) (h' := h) (P := True) 4 rfl rfl trivial ?_
  exact H 
set_option maxRecDepth 8000 in
theorem tr_248_4 {d : Nat} {h : mxH} {Q : mxO → mxH → Prop}  {i1 : Int32} {i2 : Int32} {i3 : Int32} (G : mxG h)  (H : ((i3 < (mx_i h 382 4) → (vp_in ((69 + (6 * i3)) + (3 : Int32)) 769 ∧ ((((V_198 (mx_i h 382) i3 (3 : Int32)) = 1 → (vp_in ((69 + (6 * i3)) + (5 : Int32)) 769 ∧ True)) ∧ (¬ (V_198 (mx_i h 382) i3 (3 : Int32)) = 1 → True)) ∧ (∀ (v3 : Int32), v3 = ((if (V_198 (mx_i h 382) i3 (3 : Int32)) = 1 then (if (V_198 (mx_i h 382) i3 (5 : Int32)) = i1 then ((1 : Int32) <<< (i3 &&& 31)) else 0) else 0) : Int32) → H_248_4 (d + 1) h i1 (i2 ||| v3) (i3 + 1) Q)))) ∧ (¬ i3 < (mx_i h 382 4) → Q (.inl (some (.int i2))) h))) : H_248_4 (d + 1) h i1 i2 i3 Q := by
  show mx_wp (d + 1) 248 4 [some (.ref 381), some (.int i1), some (.int i2), some (.int i3)] [] h Q
  refine wp_steps (i' := 9) (ls' := [some (.ref 381), some (.int i1), some (.int i2), some (.int i3)]) (st' := [.int (mx_i h 382 4), .int i3]) (h' := h) (P := ((mxT 381).1 = 11 ∧ mxG h) ∧ (((mxT 382).1 = 50 ∧ mxG h) ∧ vp_in 4 (mxT 382).2) ∧ True) 5 rfl rfl ⟨⟨(congrArg Prod.fst sT_381), G⟩, (cA sT_382 G (vpl rfl)), trivial⟩ ?_
  refine wp_br (P := True) (c := (mx_i h 382 4) ≤ i3) (t := 32) (st' := []) rfl rfl trivial (fun c1 => ?_) (fun c1 => ?_)
  · have c1 := Int32.not_lt.mpr c1
    have H := H.2 c1
    refine wp_steps (i' := 33) (ls' := [some (.ref 381), some (.int i1), some (.int i2), some (.int i3)]) (st' := [.int i2]) (h' := h) (P := True) 1 rfl rfl trivial ?_
    exact wp_end (o := .inl (some (.int i2))) (h' := h) (P := True) rfl rfl trivial H
  · have c1 := Int32.not_le.mp c1
    have H := H.1 c1
    refine wp_steps (i' := 14) (ls' := [some (.ref 381), some (.int i1), some (.int i2), some (.int i3)]) (st' := [.int 3, .int i3, .ref 381, .int i2]) (h' := h) (P := True) 4 rfl rfl trivial ?_
    obtain ⟨o2, H⟩ := H
    refine wp_call (b := false) (y' := 198) (as := [.ref 381, .int i3, .int 3]) (rest := [.int i2]) (P := ((mxT 381).1 = mxRc 198 ∧ mxG h)) rfl (by with_unfolding_all rfl) ⟨(congrArg Prod.fst sT_381), G⟩ (Nat.le_of_ble_eq_true rfl) (sp_198 G o2 ?_)
    show mx_wp (d + 1) 248 15 [some (.ref 381), some (.int i1), some (.int i2), some (.int i3)] [.int (V_198 (mx_i h 382) i3 (3 : Int32)), .int i2] h Q
    refine wp_steps (i' := 16) (ls' := [some (.ref 381), some (.int i1), some (.int i2), some (.int i3)]) (st' := [.int 1, .int (V_198 (mx_i h 382) i3 (3 : Int32)), .int i2]) (h' := h) (P := True) 1 rfl rfl trivial ?_
    have J : ∀ (v3 : Int32) (ev3 : v3 = ((if (V_198 (mx_i h 382) i3 (3 : Int32)) = 1 then (if (V_198 (mx_i h 382) i3 (5 : Int32)) = i1 then ((1 : Int32) <<< (i3 &&& 31)) else 0) else 0) : Int32)), mx_wp (d + 1) 248 28 [some (.ref 381), some (.int i1), some (.int i2), some (.int i3)] [.int v3, .int i2] h Q := by
      intro v3 ev3
      have H := H.2 v3 ev3
      refine wp_steps (i' := 31) (ls' := [some (.ref 381), some (.int i1), some (.int (i2 ||| v3)), some (.int (i3 + 1))]) (st' := []) (h' := h) (P := True) 3 rfl rfl trivial ?_
      refine wp_J (j := 4) (st' := []) rfl rfl ?_
      exact H 
    have H := H.1
    refine wp_br (P := True) (c := ¬ (V_198 (mx_i h 382) i3 (3 : Int32)) = 1) (t := 27) (st' := [.int i2]) rfl rfl trivial (fun c4 => ?_) (fun c4 => ?_)
    · skip
      refine wp_steps (i' := 28) (ls' := [some (.ref 381), some (.int i1), some (.int i2), some (.int i3)]) (st' := [.int 0, .int i2]) (h' := h) (P := True) 1 rfl rfl trivial ?_
      exact J _ (by rw [if_neg c4])
    · have c4 := Decidable.of_not_not c4
      have H := H.1 c4
      refine wp_steps (i' := 20) (ls' := [some (.ref 381), some (.int i1), some (.int i2), some (.int i3)]) (st' := [.int 5, .int i3, .ref 381, .int i2]) (h' := h) (P := True) 3 rfl rfl trivial ?_
      obtain ⟨o5, H⟩ := H
      refine wp_call (b := false) (y' := 198) (as := [.ref 381, .int i3, .int 5]) (rest := [.int i2]) (P := ((mxT 381).1 = mxRc 198 ∧ mxG h)) rfl (by with_unfolding_all rfl) ⟨(congrArg Prod.fst sT_381), G⟩ (Nat.le_of_ble_eq_true rfl) (sp_198 G o5 ?_)
      show mx_wp (d + 1) 248 21 [some (.ref 381), some (.int i1), some (.int i2), some (.int i3)] [.int (V_198 (mx_i h 382) i3 (5 : Int32)), .int i2] h Q
      refine wp_steps (i' := 22) (ls' := [some (.ref 381), some (.int i1), some (.int i2), some (.int i3)]) (st' := [.int i1, .int (V_198 (mx_i h 382) i3 (5 : Int32)), .int i2]) (h' := h) (P := True) 1 rfl rfl trivial ?_
      refine wp_br (P := True) (c := ¬ (V_198 (mx_i h 382) i3 (5 : Int32)) = i1) (t := 27) (st' := [.int i2]) rfl rfl trivial (fun c6 => ?_) (fun c6 => ?_)
      · skip
        refine wp_steps (i' := 28) (ls' := [some (.ref 381), some (.int i1), some (.int i2), some (.int i3)]) (st' := [.int 0, .int i2]) (h' := h) (P := True) 1 rfl rfl trivial ?_
        exact J _ (by rw [if_pos c4, if_neg c6])
      · have c6 := Decidable.of_not_not c6
        refine wp_steps (i' := 26) (ls' := [some (.ref 381), some (.int i1), some (.int i2), some (.int i3)]) (st' := [.int ((1 : Int32) <<< (i3 &&& 31)), .int i2]) (h' := h) (P := True) 3 rfl rfl trivial ?_
        refine wp_J (j := 28) (st' := [.int ((1 : Int32) <<< (i3 &&& 31)), .int i2]) rfl rfl ?_
        exact J _ (by rw [if_pos c4, if_pos c6])
def F_248_4 (r : Nat → Int32) (i1 : Int32) (z : Nat) (s : Int32) : Int32 := (s ||| ((if (V_198 (r) (nI z) (3 : Int32)) = 1 then (if (V_198 (r) (nI z) (5 : Int32)) = i1 then ((1 : Int32) <<< ((nI z) &&& 31)) else 0) else 0) : Int32))
theorem lp_248_4 {d : Nat} {h : mxH} {Q : mxO → mxH → Prop} {i1 : Int32} {s0 : Int32} {n : Nat} (z0 : Nat) (G : mxG h)  (hB : (mx_i h 382 4) = nI n) (hn : n < 2147483648) (hz : z0 ≤ n) (ob : ∀ z, z0 ≤ z → z < n → (vp_in ((69 + (6 * (nI z))) + (3 : Int32)) 769 ∧ ((((V_198 (mx_i h 382) (nI z) (3 : Int32)) = 1 → (vp_in ((69 + (6 * (nI z))) + (5 : Int32)) 769 ∧ True)) ∧ (¬ (V_198 (mx_i h 382) (nI z) (3 : Int32)) = 1 → True)) ∧ True))) (k : Q (.inl (some (.int (fz (F_248_4 (mx_i h 382) i1) z0 n s0)))) h) : H_248_4 (d + 1) h i1 s0 (nI z0) Q := by
  have L : ∀ (j z : Nat), z0 ≤ z → z + j = n → H_248_4 (d + 1) h i1 (fz (F_248_4 (mx_i h 382) i1) z0 z s0) (nI z) Q := by
    intro j
    induction j with
    | zero =>
      intro z hz0 hzn
      have hzn : z = n := by omega
      subst hzn
      refine tr_248_4 G  ⟨fun c9 => absurd (hB ▸ c9) Int32.lt_irrefl, fun c9 => k⟩
    | succ j ih =>
      intro z hz0 hzn
      have hih := ih (z + 1) (by omega) (by omega)
      rw [nI_succ, fz_s hz0] at hih
      have hob := ob z hz0 (by omega)
      refine tr_248_4 G  ⟨fun c9 => ?_, fun c9 => absurd (hB.symm ▸ nI_lt (by omega) hn) c9⟩
      obtain ⟨q0, hob⟩ := hob
      refine ⟨q0, ?_⟩
      obtain ⟨q0, hob⟩ := hob
      refine ⟨q0, ?_⟩
      intro v3 ev3
      subst ev3
      exact hih
  have L0 := L (n - z0) z0 (Nat.le_refl _) (by omega)
  simp only [fz_0] at L0
  exact L0
def V_248 (r : Nat → Int32) (i1 : Int32) : Int32 := (fo (F_248_4 (r) i1) ((r 4)).toNatClampNeg 0)
theorem sp_248 {d : Nat} {h : mxH} {Q : mxO → mxH → Prop} {i1 : Int32} (G : mxG h)  (hcb : cB (mx_i h 382 4) 10) (k : Q (.inl (some (.int (V_248 (mx_i h 382) i1)))) h) : mx_wp (d + 1) 248 0 (mx_fr 248 [.ref 381, .int i1]) [] h Q := by
  unfold V_248 at k
  obtain ⟨n, hn, hB⟩ := hcb
  rw [hB, nI_clamp (by omega)] at k
  refine tr_248_0 G  ?_
  refine lp_248_4 (s0 := 0) 0 G  hB (by omega) (Nat.zero_le _) (fun z _ hz => ⟨vpS (by omega), ⟨⟨fun _ => ⟨vpS (by omega), trivial⟩, fun _ => trivial⟩, trivial⟩⟩) ?_
  simp only [fz_fo]
  exact k
/-! 249: StoneBacksModel.place(II)I -/
set_option maxRecDepth 8000 in
theorem tr_249_0 {d : Nat} {h : mxH} {Q : mxO → mxH → Prop} {i1 : Int32} {i2 : Int32} (G : mxG h)  (H : (((V_191 (mx_i h 382) i1 (0 : Int32) (11 : Int32)) = 0 ∨ (V_191 (mx_i h 382) i1 (0 : Int32) (11 : Int32)) = 1) ∧ (∀ (v2 : Int32), v2 = ((if (V_202 (mx_i h 382) i1) = 0 then 1 else (if (V_191 (mx_i h 382) i2 (0 : Int32) (3 : Int32)) = 0 then 2 else 0)) : Int32) → (∀ h3, h3 = mx_wi h 381 0 v2 → ((0 < (mx_i h3 381 0) → Q (.inl (some (.int 0))) h3) ∧ (¬ 0 < (mx_i h3 381 0) → (((i2 = 0 → (vp_in (9 + i1) 769 ∧ True)) ∧ (¬ i2 = 0 → ((i2 = 1 → (vp_in (21 + i1) 769 ∧ True)) ∧ (¬ i2 = 1 → ((i2 = 2 → (cB (mx_i h3 382 3) 6 ∧ True)) ∧ (¬ i2 = 2 → (cB (mx_i h3 382 4) 10 ∧ True))))))) ∧ (∀ (v7 : Int32), v7 = ((if i2 = 0 then (mx_i h3 382 (9 + i1).toNatClampNeg) else (if i2 = 1 then (mx_i h3 382 (21 + i1).toNatClampNeg) else (if i2 = 2 then (V_247 (mx_i h3 382) i1) else (V_248 (mx_i h3 382) i1)))) : Int32) → Q (.inl (some (.int v7))) h3)))))))) : mx_wp (d + 2) 249 0 (mx_fr 249 [.ref 381, .int i1, .int i2]) [] h Q := by
  show mx_wp (d + 2) 249 0 [some (.ref 381), some (.int i1), some (.int i2)] [] h Q
  refine wp_steps (i' := 2) (ls' := [some (.ref 381), some (.int i1), some (.int i2)]) (st' := [.int i1, .ref 381]) (h' := h) (P := True) 2 rfl rfl trivial ?_
  obtain ⟨o1, H⟩ := H
  refine wp_call (b := false) (y' := 202) (as := [.int i1]) (rest := [.ref 381]) (P := True) rfl (by with_unfolding_all rfl) trivial (Nat.le_of_ble_eq_true rfl) (sp_202 G o1 ?_)
  show mx_wp (d + 2) 249 3 [some (.ref 381), some (.int i1), some (.int i2)] [.int (V_202 (mx_i h 382) i1), .ref 381] h Q
  have J : ∀ (v2 : Int32) (ev2 : v2 = ((if (V_202 (mx_i h 382) i1) = 0 then 1 else (if (V_191 (mx_i h 382) i2 (0 : Int32) (3 : Int32)) = 0 then 2 else 0)) : Int32)), mx_wp (d + 2) 249 14 [some (.ref 381), some (.int i1), some (.int i2)] [.int v2, .ref 381] h Q := by
    intro v2 ev2
    have H := H v2 ev2
    refine wp_steps (i' := 15) (ls' := [some (.ref 381), some (.int i1), some (.int i2)]) (st' := []) (h' := mx_wi h 381 0 v2) (P := ((mxT 381).1 = 11 ∧ mxG h) ∧ True) 1 rfl rfl ⟨⟨(congrArg Prod.fst sT_381), G⟩, trivial⟩ ?_
    obtain ⟨h3, e4⟩ : ∃ z9, z9 = mx_wi h 381 0 v2 := ⟨_, rfl⟩
    rw [← e4]
    have H := H h3 e4
    have G5 : mxG h3 := e4 ▸ mxG_wi G
    refine wp_steps (i' := 17) (ls' := [some (.ref 381), some (.int i1), some (.int i2)]) (st' := [.int (mx_i h3 381 0)]) (h' := h3) (P := ((mxT 381).1 = 11 ∧ mxG h3) ∧ True) 2 rfl rfl ⟨⟨(congrArg Prod.fst sT_381), G5⟩, trivial⟩ ?_
    refine wp_br (P := True) (c := (mx_i h3 381 0) ≤ 0) (t := 20) (st' := []) rfl rfl trivial (fun c6 => ?_) (fun c6 => ?_)
    · have c6 := Int32.not_lt.mpr c6
      have H := H.2 c6
      refine wp_steps (i' := 21) (ls' := [some (.ref 381), some (.int i1), some (.int i2)]) (st' := [.int i2]) (h' := h3) (P := True) 1 rfl rfl trivial ?_
      have J : ∀ (v7 : Int32) (ev7 : v7 = ((if i2 = 0 then (mx_i h3 382 (9 + i1).toNatClampNeg) else (if i2 = 1 then (mx_i h3 382 (21 + i1).toNatClampNeg) else (if i2 = 2 then (V_247 (mx_i h3 382) i1) else (V_248 (mx_i h3 382) i1)))) : Int32)), mx_wp (d + 2) 249 49 [some (.ref 381), some (.int i1), some (.int i2)] [.int v7] h3 Q := by
        intro v7 ev7
        have H := H.2 v7 ev7
        exact wp_end (o := .inl (some (.int v7))) (h' := h3) (P := True) rfl rfl trivial H
      have H := H.1
      refine wp_br (P := True) (c := ¬ i2 = 0) (t := 29) (st' := []) rfl rfl trivial (fun c8 => ?_) (fun c8 => ?_)
      · skip
        have H := H.2 c8
        refine wp_steps (i' := 31) (ls' := [some (.ref 381), some (.int i1), some (.int i2)]) (st' := [.int 1, .int i2]) (h' := h3) (P := True) 2 rfl rfl trivial ?_
        refine wp_br (P := True) (c := ¬ i2 = 1) (t := 39) (st' := []) rfl rfl trivial (fun c9 => ?_) (fun c9 => ?_)
        · skip
          have H := H.2 c9
          refine wp_steps (i' := 41) (ls' := [some (.ref 381), some (.int i1), some (.int i2)]) (st' := [.int 2, .int i2]) (h' := h3) (P := True) 2 rfl rfl trivial ?_
          refine wp_br (P := True) (c := ¬ i2 = 2) (t := 46) (st' := []) rfl rfl trivial (fun c10 => ?_) (fun c10 => ?_)
          · skip
            have H := H.2 c10
            refine wp_steps (i' := 48) (ls' := [some (.ref 381), some (.int i1), some (.int i2)]) (st' := [.int i1, .ref 381]) (h' := h3) (P := True) 2 rfl rfl trivial ?_
            obtain ⟨o11, H⟩ := H
            refine wp_call (b := false) (y' := 248) (as := [.ref 381, .int i1]) (rest := []) (P := ((mxT 381).1 = mxRc 248 ∧ mxG h3)) rfl (by with_unfolding_all rfl) ⟨(congrArg Prod.fst sT_381), G5⟩ (Nat.le_of_ble_eq_true rfl) (sp_248 G5 o11 ?_)
            show mx_wp (d + 2) 249 49 [some (.ref 381), some (.int i1), some (.int i2)] [.int (V_248 (mx_i h3 382) i1)] h3 Q
            exact J _ (by rw [if_neg c8, if_neg c9, if_neg c10])
          · have c10 := Decidable.of_not_not c10
            have H := H.1 c10
            refine wp_steps (i' := 44) (ls' := [some (.ref 381), some (.int i1), some (.int i2)]) (st' := [.int i1, .ref 381]) (h' := h3) (P := True) 2 rfl rfl trivial ?_
            obtain ⟨o12, H⟩ := H
            refine wp_call (b := false) (y' := 247) (as := [.ref 381, .int i1]) (rest := []) (P := ((mxT 381).1 = mxRc 247 ∧ mxG h3)) rfl (by with_unfolding_all rfl) ⟨(congrArg Prod.fst sT_381), G5⟩ (Nat.le_of_ble_eq_true rfl) (sp_247 G5 o12 ?_)
            show mx_wp (d + 2) 249 45 [some (.ref 381), some (.int i1), some (.int i2)] [.int (V_247 (mx_i h3 382) i1)] h3 Q
            refine wp_J (j := 49) (st' := [.int (V_247 (mx_i h3 382) i1)]) rfl rfl ?_
            exact J _ (by rw [if_neg c8, if_neg c9, if_pos c10])
        · have c9 := Decidable.of_not_not c9
          have H := H.1 c9
          obtain ⟨o13, H⟩ := H
          refine wp_steps (i' := 38) (ls' := [some (.ref 381), some (.int i1), some (.int i2)]) (st' := [.int (mx_i h3 382 (21 + i1).toNatClampNeg)]) (h' := h3) (P := ((mxT 381).1 = 11 ∧ mxG h3) ∧ (((mxT 382).1 = 50 ∧ mxG h3) ∧ vp_in (21 + i1) (mxT 382).2) ∧ True) 6 rfl rfl ⟨⟨(congrArg Prod.fst sT_381), G5⟩, (cA sT_382 G5 o13), trivial⟩ ?_
          refine wp_J (j := 49) (st' := [.int (mx_i h3 382 (21 + i1).toNatClampNeg)]) rfl rfl ?_
          exact J _ (by rw [if_neg c8, if_pos c9])
      · have c8 := Decidable.of_not_not c8
        have H := H.1 c8
        obtain ⟨o14, H⟩ := H
        refine wp_steps (i' := 28) (ls' := [some (.ref 381), some (.int i1), some (.int i2)]) (st' := [.int (mx_i h3 382 (9 + i1).toNatClampNeg)]) (h' := h3) (P := ((mxT 381).1 = 11 ∧ mxG h3) ∧ (((mxT 382).1 = 50 ∧ mxG h3) ∧ vp_in (9 + i1) (mxT 382).2) ∧ True) 6 rfl rfl ⟨⟨(congrArg Prod.fst sT_381), G5⟩, (cA sT_382 G5 o14), trivial⟩ ?_
        refine wp_J (j := 49) (st' := [.int (mx_i h3 382 (9 + i1).toNatClampNeg)]) rfl rfl ?_
        exact J _ (by rw [if_pos c8])
    · have c6 := Int32.not_le.mp c6
      have H := H.1 c6
      refine wp_steps (i' := 19) (ls' := [some (.ref 381), some (.int i1), some (.int i2)]) (st' := [.int 0]) (h' := h3) (P := True) 1 rfl rfl trivial ?_
      exact wp_end (o := .inl (some (.int 0))) (h' := h3) (P := True) rfl rfl trivial H
  refine wp_br (P := True) (c := ¬ (V_202 (mx_i h 382) i1) = 0) (t := 6) (st' := [.ref 381]) rfl rfl trivial (fun c15 => ?_) (fun c15 => ?_)
  · skip
    refine wp_steps (i' := 9) (ls' := [some (.ref 381), some (.int i1), some (.int i2)]) (st' := [.int 3, .int 0, .int i2, .ref 381]) (h' := h) (P := True) 3 rfl rfl trivial ?_
    refine wp_call (b := false) (y' := 191) (as := [.int i2, .int 0, .int 3]) (rest := [.ref 381]) (P := True) rfl (by with_unfolding_all rfl) trivial (Nat.le_of_ble_eq_true rfl) (sp_191 G ?_)
    show mx_wp (d + 2) 249 10 [some (.ref 381), some (.int i1), some (.int i2)] [.int (V_191 (mx_i h 382) i2 (0 : Int32) (3 : Int32)), .ref 381] h Q
    refine wp_br (P := True) (c := ¬ (V_191 (mx_i h 382) i2 (0 : Int32) (3 : Int32)) = 0) (t := 13) (st' := [.ref 381]) rfl rfl trivial (fun c16 => ?_) (fun c16 => ?_)
    · skip
      refine wp_steps (i' := 14) (ls' := [some (.ref 381), some (.int i1), some (.int i2)]) (st' := [.int 0, .ref 381]) (h' := h) (P := True) 1 rfl rfl trivial ?_
      exact J _ (by rw [if_neg c15, if_neg c16])
    · have c16 := Decidable.of_not_not c16
      refine wp_steps (i' := 12) (ls' := [some (.ref 381), some (.int i1), some (.int i2)]) (st' := [.int 2, .ref 381]) (h' := h) (P := True) 1 rfl rfl trivial ?_
      refine wp_J (j := 14) (st' := [.int 2, .ref 381]) rfl rfl ?_
      exact J _ (by rw [if_neg c15, if_pos c16])
  · have c15 := Decidable.of_not_not c15
    refine wp_steps (i' := 5) (ls' := [some (.ref 381), some (.int i1), some (.int i2)]) (st' := [.int 1, .ref 381]) (h' := h) (P := True) 1 rfl rfl trivial ?_
    refine wp_J (j := 14) (st' := [.int 1, .ref 381]) rfl rfl ?_
    exact J _ (by rw [if_pos c15])
def V_249 (h : mxH) (i1 : Int32) (i2 : Int32) : Int32 := (if 0 < (mx_i (mx_wi h 381 0 ((if (V_202 (mx_i h 382) i1) = 0 then 1 else (if (V_191 (mx_i h 382) i2 (0 : Int32) (3 : Int32)) = 0 then 2 else 0)) : Int32)) 381 0) then 0 else ((if i2 = 0 then (mx_i (mx_wi h 381 0 ((if (V_202 (mx_i h 382) i1) = 0 then 1 else (if (V_191 (mx_i h 382) i2 (0 : Int32) (3 : Int32)) = 0 then 2 else 0)) : Int32)) 382 (9 + i1).toNatClampNeg) else (if i2 = 1 then (mx_i (mx_wi h 381 0 ((if (V_202 (mx_i h 382) i1) = 0 then 1 else (if (V_191 (mx_i h 382) i2 (0 : Int32) (3 : Int32)) = 0 then 2 else 0)) : Int32)) 382 (21 + i1).toNatClampNeg) else (if i2 = 2 then (V_247 (mx_i (mx_wi h 381 0 ((if (V_202 (mx_i h 382) i1) = 0 then 1 else (if (V_191 (mx_i h 382) i2 (0 : Int32) (3 : Int32)) = 0 then 2 else 0)) : Int32)) 382) i1) else (V_248 (mx_i (mx_wi h 381 0 ((if (V_202 (mx_i h 382) i1) = 0 then 1 else (if (V_191 (mx_i h 382) i2 (0 : Int32) (3 : Int32)) = 0 then 2 else 0)) : Int32)) 382) i1)))) : Int32))
def W_249 (h : mxH) (i1 : Int32) (i2 : Int32) : mxH := (mx_wi h 381 0 ((if (V_202 (mx_i h 382) i1) = 0 then 1 else (if (V_191 (mx_i h 382) i2 (0 : Int32) (3 : Int32)) = 0 then 2 else 0)) : Int32))
theorem KW_249 {h : mxH} {i1 : Int32} {i2 : Int32} : mxK h (W_249 h i1 i2) := by
  unfold W_249
  repeat' (first | with_reducible exact mxK_rfl | with_reducible exact mxK_wi | with_reducible exact mxK_wrow | with_reducible refine mxK_ite ?_ ?_ | with_reducible refine mxK_tr ?_ mxK_wi | with_reducible refine mxK_tr ?_ mxK_wrow)
theorem sp_249 {d : Nat} {h : mxH} {Q : mxO → mxH → Prop} {i1 : Int32} {i2 : Int32} (G : mxG h)  (x0 : ((V_191 (mx_i h 382) i1 (0 : Int32) (11 : Int32)) = 0 ∨ (V_191 (mx_i h 382) i1 (0 : Int32) (11 : Int32)) = 1)) (x1 : ((0 < (mx_i (mx_wi h 381 0 ((if (V_202 (mx_i h 382) i1) = 0 then 1 else (if (V_191 (mx_i h 382) i2 (0 : Int32) (3 : Int32)) = 0 then 2 else 0)) : Int32)) 381 0) → True) ∧ (¬ 0 < (mx_i (mx_wi h 381 0 ((if (V_202 (mx_i h 382) i1) = 0 then 1 else (if (V_191 (mx_i h 382) i2 (0 : Int32) (3 : Int32)) = 0 then 2 else 0)) : Int32)) 381 0) → (((i2 = 0 → (vp_in (9 + i1) 769 ∧ True)) ∧ (¬ i2 = 0 → ((i2 = 1 → (vp_in (21 + i1) 769 ∧ True)) ∧ (¬ i2 = 1 → ((i2 = 2 → (cB (mx_i (mx_wi h 381 0 ((if (V_202 (mx_i h 382) i1) = 0 then 1 else (if (V_191 (mx_i h 382) i2 (0 : Int32) (3 : Int32)) = 0 then 2 else 0)) : Int32)) 382 3) 6 ∧ True)) ∧ (¬ i2 = 2 → (cB (mx_i (mx_wi h 381 0 ((if (V_202 (mx_i h 382) i1) = 0 then 1 else (if (V_191 (mx_i h 382) i2 (0 : Int32) (3 : Int32)) = 0 then 2 else 0)) : Int32)) 382 4) 10 ∧ True))))))) ∧ True)))) (k : Q (.inl (some (.int (V_249 h i1 i2)))) (W_249 h i1 i2)) : mx_wp (d + 2) 249 0 (mx_fr 249 [.ref 381, .int i1, .int i2]) [] h Q := by
  unfold V_249 W_249 at k
  have hob : (((V_191 (mx_i h 382) i1 (0 : Int32) (11 : Int32)) = 0 ∨ (V_191 (mx_i h 382) i1 (0 : Int32) (11 : Int32)) = 1) ∧ ((0 < (mx_i (mx_wi h 381 0 ((if (V_202 (mx_i h 382) i1) = 0 then 1 else (if (V_191 (mx_i h 382) i2 (0 : Int32) (3 : Int32)) = 0 then 2 else 0)) : Int32)) 381 0) → True) ∧ (¬ 0 < (mx_i (mx_wi h 381 0 ((if (V_202 (mx_i h 382) i1) = 0 then 1 else (if (V_191 (mx_i h 382) i2 (0 : Int32) (3 : Int32)) = 0 then 2 else 0)) : Int32)) 381 0) → (((i2 = 0 → (vp_in (9 + i1) 769 ∧ True)) ∧ (¬ i2 = 0 → ((i2 = 1 → (vp_in (21 + i1) 769 ∧ True)) ∧ (¬ i2 = 1 → ((i2 = 2 → (cB (mx_i (mx_wi h 381 0 ((if (V_202 (mx_i h 382) i1) = 0 then 1 else (if (V_191 (mx_i h 382) i2 (0 : Int32) (3 : Int32)) = 0 then 2 else 0)) : Int32)) 382 3) 6 ∧ True)) ∧ (¬ i2 = 2 → (cB (mx_i (mx_wi h 381 0 ((if (V_202 (mx_i h 382) i1) = 0 then 1 else (if (V_191 (mx_i h 382) i2 (0 : Int32) (3 : Int32)) = 0 then 2 else 0)) : Int32)) 382 4) 10 ∧ True))))))) ∧ True)))) := ⟨x0, x1⟩
  refine tr_249_0 G  ?_
  obtain ⟨q0, hob⟩ := hob
  refine ⟨q0, ?_⟩
  intro v2 ev2
  subst ev2
  intro h3 eh3
  subst eh3
  refine ⟨fun c9 => ?_, fun c9 => ?_⟩
  · try simp only [if_pos c9] at k
    have hob := hob.1 c9
    exact k
  · try simp only [if_neg c9] at k
    have hob := hob.2 c9
    obtain ⟨q0, hob⟩ := hob
    refine ⟨q0, ?_⟩
    intro v7 ev7
    subst ev7
    exact k
/-! 250: StoneBacksModel.remembers()V -/
def H_250_6 (d : Nat) (h : mxH) (i1 : Int32) (Q : mxO → mxH → Prop) : Prop := mx_wp d 250 6 [some (.ref 381), some (.int i1)] [] h Q
def H_250_29 (d : Nat) (h : mxH) (i1 : Int32) (Q : mxO → mxH → Prop) : Prop := mx_wp d 250 29 [some (.ref 381), some (.int i1)] [] h Q
set_option maxRecDepth 8000 in
theorem tr_250_0 {d : Nat} {h : mxH} {Q : mxO → mxH → Prop}  (G : mxG h)  (H : (((mx_i h 381 6) = 12 → H_250_6 d h 0 Q) ∧ (¬ (mx_i h 381 6) = 12 → H_250_29 d h 0 Q))) : mx_wp d 250 0 (mx_fr 250 [.ref 381]) [] h Q := by
  show mx_wp d 250 0 [some (.ref 381), none] [] h Q
  refine wp_steps (i' := 3) (ls' := [some (.ref 381), none]) (st' := [.int 12, .int (mx_i h 381 6)]) (h' := h) (P := ((mxT 381).1 = 11 ∧ mxG h) ∧ True) 3 rfl rfl ⟨⟨(congrArg Prod.fst sT_381), G⟩, trivial⟩ ?_
  refine wp_br (P := True) (c := ¬ (mx_i h 381 6) = 12) (t := 27) (st' := []) rfl rfl trivial (fun c1 => ?_) (fun c1 => ?_)
  · skip
    have H := H.2 c1
    refine wp_steps (i' := 29) (ls' := [some (.ref 381), some (.int 0)]) (st' := []) (h' := h) (P := True) 2 rfl rfl trivial ?_
    exact H 
  · have c1 := Decidable.of_not_not c1
    have H := H.1 c1
    refine wp_steps (i' := 6) (ls' := [some (.ref 381), some (.int 0)]) (st' := []) (h' := h) (P := True) 2 rfl rfl trivial ?_
    exact H 
set_option maxRecDepth 8000 in
theorem tr_250_6 {d : Nat} {h : mxH} {Q : mxO → mxH → Prop}  {i1 : Int32} (G : mxG h)  (H : ((i1 < 4059 → (vp_in (i1 + 369) 4428 ∧ vp_in i1 4428 ∧ (∀ h7, h7 = mx_wi h 385 i1.toNatClampNeg (mx_i h 385 (i1 + 369).toNatClampNeg) → H_250_6 d h7 (i1 + 1) Q))) ∧ (¬ i1 < 4059 → (∀ h2, h2 = mx_wi h 381 6 ((mx_i h 381 6) - 1) → H_250_29 d h2 0 Q)))) : H_250_6 d h i1 Q := by
  show mx_wp d 250 6 [some (.ref 381), some (.int i1)] [] h Q
  refine wp_steps (i' := 8) (ls' := [some (.ref 381), some (.int i1)]) (st' := [.int 4059, .int i1]) (h' := h) (P := True) 2 rfl rfl trivial ?_
  refine wp_br (P := True) (c := 4059 ≤ i1) (t := 21) (st' := []) rfl rfl trivial (fun c1 => ?_) (fun c1 => ?_)
  · have c1 := Int32.not_lt.mpr c1
    have H := H.2 c1
    refine wp_steps (i' := 27) (ls' := [some (.ref 381), some (.int i1)]) (st' := []) (h' := mx_wi h 381 6 ((mx_i h 381 6) - 1)) (P := ((mxT 381).1 = 11 ∧ mxG h) ∧ ((mxT 381).1 = 11 ∧ mxG h) ∧ True) 6 rfl rfl ⟨⟨(congrArg Prod.fst sT_381), G⟩, ⟨(congrArg Prod.fst sT_381), G⟩, trivial⟩ ?_
    obtain ⟨h2, e3⟩ : ∃ z9, z9 = mx_wi h 381 6 ((mx_i h 381 6) - 1) := ⟨_, rfl⟩
    rw [← e3]
    have H := H h2 e3
    have G4 : mxG h2 := e3 ▸ mxG_wi G
    refine wp_steps (i' := 29) (ls' := [some (.ref 381), some (.int 0)]) (st' := []) (h' := h2) (P := True) 2 rfl rfl trivial ?_
    exact H 
  · have c1 := Int32.not_le.mp c1
    have H := H.1 c1
    obtain ⟨o5, o6, H⟩ := H
    refine wp_steps (i' := 19) (ls' := [some (.ref 381), some (.int i1)]) (st' := []) (h' := mx_wi h 385 i1.toNatClampNeg (mx_i h 385 (i1 + 369).toNatClampNeg)) (P := ((mxT 381).1 = 11 ∧ mxG h) ∧ ((mxT 381).1 = 11 ∧ mxG h) ∧ (((mxT 385).1 = 50 ∧ mxG h) ∧ vp_in (i1 + 369) (mxT 385).2) ∧ (((mxT 385).1 = 50 ∧ mxG h) ∧ vp_in i1 (mxT 385).2) ∧ True) 10 rfl rfl ⟨⟨(congrArg Prod.fst sT_381), G⟩, ⟨(congrArg Prod.fst sT_381), G⟩, (cA sT_385 G o5), (cA sT_385 G o6), trivial⟩ ?_
    obtain ⟨h7, e8⟩ : ∃ z9, z9 = mx_wi h 385 i1.toNatClampNeg (mx_i h 385 (i1 + 369).toNatClampNeg) := ⟨_, rfl⟩
    rw [← e8]
    have H := H h7 e8
    have G9 : mxG h7 := e8 ▸ mxG_wi G
    refine wp_steps (i' := 20) (ls' := [some (.ref 381), some (.int (i1 + 1))]) (st' := []) (h' := h7) (P := True) 1 rfl rfl trivial ?_
    refine wp_J (j := 6) (st' := []) rfl rfl ?_
    exact H 
set_option maxRecDepth 8000 in
theorem tr_250_29 {d : Nat} {h : mxH} {Q : mxO → mxH → Prop}  {i1 : Int32} (G : mxG h)  (H : ((i1 < 369 → (vp_in i1 769 ∧ vp_in ((369 * (mx_i h 381 6)) + i1) 4428 ∧ (∀ h7, h7 = mx_wi h 385 ((369 * (mx_i h 381 6)) + i1).toNatClampNeg (mx_i h 382 i1.toNatClampNeg) → H_250_29 d h7 (i1 + 1) Q))) ∧ (¬ i1 < 369 → (∀ h2, h2 = mx_wi h 381 6 ((mx_i h 381 6) + 1) → Q (.inl none) h2)))) : H_250_29 d h i1 Q := by
  show mx_wp d 250 29 [some (.ref 381), some (.int i1)] [] h Q
  refine wp_steps (i' := 31) (ls' := [some (.ref 381), some (.int i1)]) (st' := [.int 369, .int i1]) (h' := h) (P := True) 2 rfl rfl trivial ?_
  refine wp_br (P := True) (c := 369 ≤ i1) (t := 47) (st' := []) rfl rfl trivial (fun c1 => ?_) (fun c1 => ?_)
  · have c1 := Int32.not_lt.mpr c1
    have H := H.2 c1
    refine wp_steps (i' := 53) (ls' := [some (.ref 381), some (.int i1)]) (st' := []) (h' := mx_wi h 381 6 ((mx_i h 381 6) + 1)) (P := ((mxT 381).1 = 11 ∧ mxG h) ∧ ((mxT 381).1 = 11 ∧ mxG h) ∧ True) 6 rfl rfl ⟨⟨(congrArg Prod.fst sT_381), G⟩, ⟨(congrArg Prod.fst sT_381), G⟩, trivial⟩ ?_
    obtain ⟨h2, e3⟩ : ∃ z9, z9 = mx_wi h 381 6 ((mx_i h 381 6) + 1) := ⟨_, rfl⟩
    rw [← e3]
    have H := H h2 e3
    have G4 : mxG h2 := e3 ▸ mxG_wi G
    exact wp_end (o := .inl none) (h' := h2) (P := True) rfl rfl trivial H
  · have c1 := Int32.not_le.mp c1
    have H := H.1 c1
    obtain ⟨o5, o6, H⟩ := H
    refine wp_steps (i' := 45) (ls' := [some (.ref 381), some (.int i1)]) (st' := []) (h' := mx_wi h 385 ((369 * (mx_i h 381 6)) + i1).toNatClampNeg (mx_i h 382 i1.toNatClampNeg)) (P := ((mxT 381).1 = 11 ∧ mxG h) ∧ ((mxT 381).1 = 11 ∧ mxG h) ∧ ((mxT 381).1 = 11 ∧ mxG h) ∧ (((mxT 382).1 = 50 ∧ mxG h) ∧ vp_in i1 (mxT 382).2) ∧ (((mxT 385).1 = 50 ∧ mxG h) ∧ vp_in ((369 * (mx_i h 381 6)) + i1) (mxT 385).2) ∧ True) 13 rfl rfl ⟨⟨(congrArg Prod.fst sT_381), G⟩, ⟨(congrArg Prod.fst sT_381), G⟩, ⟨(congrArg Prod.fst sT_381), G⟩, (cA sT_382 G o5), (cA sT_385 G o6), trivial⟩ ?_
    obtain ⟨h7, e8⟩ : ∃ z9, z9 = mx_wi h 385 ((369 * (mx_i h 381 6)) + i1).toNatClampNeg (mx_i h 382 i1.toNatClampNeg) := ⟨_, rfl⟩
    rw [← e8]
    have H := H h7 e8
    have G9 : mxG h7 := e8 ▸ mxG_wi G
    refine wp_steps (i' := 46) (ls' := [some (.ref 381), some (.int (i1 + 1))]) (st' := []) (h' := h7) (P := True) 1 rfl rfl trivial ?_
    refine wp_J (j := 29) (st' := []) rfl rfl ?_
    exact H 
def F_250_6 (z : Nat) (s : mxH) : mxH := (mx_wi s 385 (nI z).toNatClampNeg (mx_i s 385 ((nI z) + 369).toNatClampNeg))
theorem K_250_6 (z : Nat) (s : mxH) : mxK s (F_250_6 z s) := by
  unfold F_250_6
  (try simp only []); repeat' (first | with_reducible exact mxK_rfl | with_reducible exact mxK_wi | with_reducible exact mxK_wrow | with_reducible refine mxK_ite ?_ ?_ | with_reducible refine mxK_tr ?_ mxK_wi | with_reducible refine mxK_tr ?_ mxK_wrow)
theorem lp_250_6 {d : Nat} {Q : mxO → mxH → Prop} {s0 : mxH} {n : Nat} (z0 : Nat) (G : mxG s0)  (hB : ∀ z, z0 ≤ z → z ≤ n → (4059 : Int32) = nI n) (hn : n < 2147483648) (hz : z0 ≤ n) (ob : ∀ z, z0 ≤ z → z < n → (vp_in ((nI z) + 369) 4428 ∧ vp_in (nI z) 4428 ∧ True)) (k : (∀ h2, h2 = mx_wi (fz F_250_6 z0 n s0) 381 6 ((mx_i (fz F_250_6 z0 n s0) 381 6) - 1) → H_250_29 d h2 0 Q)) : H_250_6 d s0 (nI z0) Q := by
  have L : ∀ (j z : Nat), z0 ≤ z → z + j = n → H_250_6 d (fz F_250_6 z0 z s0) (nI z) Q := by
    intro j
    induction j with
    | zero =>
      intro z hz0 hzn
      have hzn : z = n := by omega
      subst hzn
      have Gz : mxG (fz F_250_6 z0 z s0) := mxK_G (mxK_fz (g := fun s => s) (fun z s => K_250_6 z s) z0 z s0) G
      have hBz := hB z hz0 (by omega)
      refine tr_250_6 Gz  ⟨fun c9 => absurd (hBz ▸ c9) Int32.lt_irrefl, fun c9 => k⟩
    | succ j ih =>
      intro z hz0 hzn
      have hih := ih (z + 1) (by omega) (by omega)
      rw [nI_succ, fz_s hz0] at hih
      have Gz : mxG (fz F_250_6 z0 z s0) := mxK_G (mxK_fz (g := fun s => s) (fun z s => K_250_6 z s) z0 z s0) G
      have hBz := hB z hz0 (by omega)
      have hob := ob z hz0 (by omega)
      refine tr_250_6 Gz  ⟨fun c9 => ?_, fun c9 => absurd (hBz.symm ▸ nI_lt (by omega) hn) c9⟩
      obtain ⟨q0, q1, hob⟩ := hob
      refine ⟨q0, q1, ?_⟩
      intro h7 eh7
      subst eh7
      exact hih
  have L0 := L (n - z0) z0 (Nat.le_refl _) (by omega)
  simp only [fz_0] at L0
  exact L0
def F_250_29 (z : Nat) (s : mxH) : mxH := (mx_wi s 385 ((369 * (mx_i s 381 6)) + (nI z)).toNatClampNeg (mx_i s 382 (nI z).toNatClampNeg))
theorem K_250_29 (z : Nat) (s : mxH) : mxK s (F_250_29 z s) := by
  unfold F_250_29
  (try simp only []); repeat' (first | with_reducible exact mxK_rfl | with_reducible exact mxK_wi | with_reducible exact mxK_wrow | with_reducible refine mxK_ite ?_ ?_ | with_reducible refine mxK_tr ?_ mxK_wi | with_reducible refine mxK_tr ?_ mxK_wrow)
theorem lp_250_29 {d : Nat} {Q : mxO → mxH → Prop} {s0 : mxH} {n : Nat} (z0 : Nat) (G : mxG s0)  (hB : ∀ z, z0 ≤ z → z ≤ n → (369 : Int32) = nI n) (hn : n < 2147483648) (hz : z0 ≤ n) (ob : ∀ z, z0 ≤ z → z < n → (vp_in (nI z) 769 ∧ vp_in ((369 * (mx_i (fz F_250_29 z0 z s0) 381 6)) + (nI z)) 4428 ∧ True)) (k : (∀ h2, h2 = mx_wi (fz F_250_29 z0 n s0) 381 6 ((mx_i (fz F_250_29 z0 n s0) 381 6) + 1) → Q (.inl none) h2)) : H_250_29 d s0 (nI z0) Q := by
  have L : ∀ (j z : Nat), z0 ≤ z → z + j = n → H_250_29 d (fz F_250_29 z0 z s0) (nI z) Q := by
    intro j
    induction j with
    | zero =>
      intro z hz0 hzn
      have hzn : z = n := by omega
      subst hzn
      have Gz : mxG (fz F_250_29 z0 z s0) := mxK_G (mxK_fz (g := fun s => s) (fun z s => K_250_29 z s) z0 z s0) G
      have hBz := hB z hz0 (by omega)
      refine tr_250_29 Gz  ⟨fun c9 => absurd (hBz ▸ c9) Int32.lt_irrefl, fun c9 => k⟩
    | succ j ih =>
      intro z hz0 hzn
      have hih := ih (z + 1) (by omega) (by omega)
      rw [nI_succ, fz_s hz0] at hih
      have Gz : mxG (fz F_250_29 z0 z s0) := mxK_G (mxK_fz (g := fun s => s) (fun z s => K_250_29 z s) z0 z s0) G
      have hBz := hB z hz0 (by omega)
      have hob := ob z hz0 (by omega)
      refine tr_250_29 Gz  ⟨fun c9 => ?_, fun c9 => absurd (hBz.symm ▸ nI_lt (by omega) hn) c9⟩
      obtain ⟨q0, q1, hob⟩ := hob
      refine ⟨q0, q1, ?_⟩
      intro h7 eh7
      subst eh7
      exact hih
  have L0 := L (n - z0) z0 (Nat.le_refl _) (by omega)
  simp only [fz_0] at L0
  exact L0
/-! 251: StoneBacksModel.logs(III)V -/
def H_251_2 (d : Nat) (h : mxH) (i1 : Int32) (i2 : Int32) (i3 : Int32) (i4 : Int32) (Q : mxO → mxH → Prop) : Prop := mx_wp d 251 2 [some (.ref 381), some (.int i1), some (.int i2), some (.int i3), some (.int i4)] [] h Q
set_option maxRecDepth 8000 in
theorem tr_251_0 {d : Nat} {h : mxH} {Q : mxO → mxH → Prop} {i1 : Int32} {i2 : Int32} {i3 : Int32} (G : mxG h)  (H : H_251_2 (d + 1) h i1 i2 i3 239 Q) : mx_wp (d + 1) 251 0 (mx_fr 251 [.ref 381, .int i1, .int i2, .int i3]) [] h Q := by
  show mx_wp (d + 1) 251 0 [some (.ref 381), some (.int i1), some (.int i2), some (.int i3), none] [] h Q
  refine wp_steps (i' := 2) (ls' := [some (.ref 381), some (.int i1), some (.int i2), some (.int i3), some (.int 239)]) (st' := []) (h' := h) (P := True) 2 rfl rfl trivial ?_
  exact H 
set_option maxRecDepth 8000 in
theorem tr_251_2 {d : Nat} {h : mxH} {Q : mxO → mxH → Prop}  {i1 : Int32} {i2 : Int32} {i3 : Int32} {i4 : Int32} (G : mxG h)  (H : ((i4 < 4 → (∀ h2, h2 = mx_wi h 382 129 (mx_i h 382 5) → (∀ h5, h5 = mx_wi h2 382 130 i1 → (∀ h8, h8 = mx_wi h5 382 131 i2 → (∀ h11, h11 = mx_wi h8 382 132 i3 → (∀ h14, h14 = mx_wi h11 382 7 (V_192 (mx_i h11 382) (60 : Int32) ((mx_i h11 382 7) + 1)) → Q (.inl none) h14)))))) ∧ (¬ i4 < 4 → (vp_in ((129 + i4) - 4) 769 ∧ vp_in (129 + i4) 769 ∧ (∀ h19, h19 = mx_wi h 382 (129 + i4).toNatClampNeg (mx_i h 382 ((129 + i4) - 4).toNatClampNeg) → H_251_2 (d + 1) h19 i1 i2 i3 (i4 + (-1)) Q))))) : H_251_2 (d + 1) h i1 i2 i3 i4 Q := by
  show mx_wp (d + 1) 251 2 [some (.ref 381), some (.int i1), some (.int i2), some (.int i3), some (.int i4)] [] h Q
  refine wp_steps (i' := 4) (ls' := [some (.ref 381), some (.int i1), some (.int i2), some (.int i3), some (.int i4)]) (st' := [.int 4, .int i4]) (h' := h) (P := True) 2 rfl rfl trivial ?_
  refine wp_br (P := True) (c := i4 < 4) (t := 21) (st' := []) rfl rfl trivial (fun c1 => ?_) (fun c1 => ?_)
  · skip
    have H := H.1 c1
    refine wp_steps (i' := 29) (ls' := [some (.ref 381), some (.int i1), some (.int i2), some (.int i3), some (.int i4)]) (st' := []) (h' := mx_wi h 382 129 (mx_i h 382 5)) (P := ((mxT 381).1 = 11 ∧ mxG h) ∧ ((mxT 381).1 = 11 ∧ mxG h) ∧ (((mxT 382).1 = 50 ∧ mxG h) ∧ vp_in 5 (mxT 382).2) ∧ (((mxT 382).1 = 50 ∧ mxG h) ∧ vp_in 129 (mxT 382).2) ∧ True) 8 rfl rfl ⟨⟨(congrArg Prod.fst sT_381), G⟩, ⟨(congrArg Prod.fst sT_381), G⟩, (cA sT_382 G (vpl rfl)), (cA sT_382 G (vpl rfl)), trivial⟩ ?_
    obtain ⟨h2, e3⟩ : ∃ z9, z9 = mx_wi h 382 129 (mx_i h 382 5) := ⟨_, rfl⟩
    rw [← e3]
    have H := H h2 e3
    have G4 : mxG h2 := e3 ▸ mxG_wi G
    refine wp_steps (i' := 34) (ls' := [some (.ref 381), some (.int i1), some (.int i2), some (.int i3), some (.int i4)]) (st' := []) (h' := mx_wi h2 382 130 i1) (P := ((mxT 381).1 = 11 ∧ mxG h2) ∧ (((mxT 382).1 = 50 ∧ mxG h2) ∧ vp_in 130 (mxT 382).2) ∧ True) 5 rfl rfl ⟨⟨(congrArg Prod.fst sT_381), G4⟩, (cA sT_382 G4 (vpl rfl)), trivial⟩ ?_
    obtain ⟨h5, e6⟩ : ∃ z9, z9 = mx_wi h2 382 130 i1 := ⟨_, rfl⟩
    rw [← e6]
    have H := H h5 e6
    have G7 : mxG h5 := e6 ▸ mxG_wi G4
    refine wp_steps (i' := 39) (ls' := [some (.ref 381), some (.int i1), some (.int i2), some (.int i3), some (.int i4)]) (st' := []) (h' := mx_wi h5 382 131 i2) (P := ((mxT 381).1 = 11 ∧ mxG h5) ∧ (((mxT 382).1 = 50 ∧ mxG h5) ∧ vp_in 131 (mxT 382).2) ∧ True) 5 rfl rfl ⟨⟨(congrArg Prod.fst sT_381), G7⟩, (cA sT_382 G7 (vpl rfl)), trivial⟩ ?_
    obtain ⟨h8, e9⟩ : ∃ z9, z9 = mx_wi h5 382 131 i2 := ⟨_, rfl⟩
    rw [← e9]
    have H := H h8 e9
    have G10 : mxG h8 := e9 ▸ mxG_wi G7
    refine wp_steps (i' := 44) (ls' := [some (.ref 381), some (.int i1), some (.int i2), some (.int i3), some (.int i4)]) (st' := []) (h' := mx_wi h8 382 132 i3) (P := ((mxT 381).1 = 11 ∧ mxG h8) ∧ (((mxT 382).1 = 50 ∧ mxG h8) ∧ vp_in 132 (mxT 382).2) ∧ True) 5 rfl rfl ⟨⟨(congrArg Prod.fst sT_381), G10⟩, (cA sT_382 G10 (vpl rfl)), trivial⟩ ?_
    obtain ⟨h11, e12⟩ : ∃ z9, z9 = mx_wi h8 382 132 i3 := ⟨_, rfl⟩
    rw [← e12]
    have H := H h11 e12
    have G13 : mxG h11 := e12 ▸ mxG_wi G10
    refine wp_steps (i' := 54) (ls' := [some (.ref 381), some (.int i1), some (.int i2), some (.int i3), some (.int i4)]) (st' := [.int ((mx_i h11 382 7) + 1), .int 60, .int 7, .ref 382]) (h' := h11) (P := ((mxT 381).1 = 11 ∧ mxG h11) ∧ ((mxT 381).1 = 11 ∧ mxG h11) ∧ (((mxT 382).1 = 50 ∧ mxG h11) ∧ vp_in 7 (mxT 382).2) ∧ True) 10 rfl rfl ⟨⟨(congrArg Prod.fst sT_381), G13⟩, ⟨(congrArg Prod.fst sT_381), G13⟩, (cA sT_382 G13 (vpl rfl)), trivial⟩ ?_
    refine wp_call (b := false) (y' := 192) (as := [.int 60, .int ((mx_i h11 382 7) + 1)]) (rest := [.int 7, .ref 382]) (P := True) rfl (by with_unfolding_all rfl) trivial (Nat.le_of_ble_eq_true rfl) (sp_192 G13 ?_)
    show mx_wp (d + 1) 251 55 [some (.ref 381), some (.int i1), some (.int i2), some (.int i3), some (.int i4)] [.int (V_192 (mx_i h11 382) (60 : Int32) ((mx_i h11 382 7) + 1)), .int 7, .ref 382] h11 Q
    refine wp_steps (i' := 56) (ls' := [some (.ref 381), some (.int i1), some (.int i2), some (.int i3), some (.int i4)]) (st' := []) (h' := mx_wi h11 382 7 (V_192 (mx_i h11 382) (60 : Int32) ((mx_i h11 382 7) + 1))) (P := (((mxT 382).1 = 50 ∧ mxG h11) ∧ vp_in 7 (mxT 382).2) ∧ True) 1 rfl rfl ⟨(cA sT_382 G13 (vpl rfl)), trivial⟩ ?_
    obtain ⟨h14, e15⟩ : ∃ z9, z9 = mx_wi h11 382 7 (V_192 (mx_i h11 382) (60 : Int32) ((mx_i h11 382 7) + 1)) := ⟨_, rfl⟩
    rw [← e15]
    have H := H h14 e15
    have G16 : mxG h14 := e15 ▸ mxG_wi G13
    exact wp_end (o := .inl none) (h' := h14) (P := True) rfl rfl trivial H
  · skip
    have H := H.2 c1
    obtain ⟨o17, o18, H⟩ := H
    refine wp_steps (i' := 19) (ls' := [some (.ref 381), some (.int i1), some (.int i2), some (.int i3), some (.int i4)]) (st' := []) (h' := mx_wi h 382 (129 + i4).toNatClampNeg (mx_i h 382 ((129 + i4) - 4).toNatClampNeg)) (P := ((mxT 381).1 = 11 ∧ mxG h) ∧ ((mxT 381).1 = 11 ∧ mxG h) ∧ (((mxT 382).1 = 50 ∧ mxG h) ∧ vp_in ((129 + i4) - 4) (mxT 382).2) ∧ (((mxT 382).1 = 50 ∧ mxG h) ∧ vp_in (129 + i4) (mxT 382).2) ∧ True) 14 rfl rfl ⟨⟨(congrArg Prod.fst sT_381), G⟩, ⟨(congrArg Prod.fst sT_381), G⟩, (cA sT_382 G o17), (cA sT_382 G o18), trivial⟩ ?_
    obtain ⟨h19, e20⟩ : ∃ z9, z9 = mx_wi h 382 (129 + i4).toNatClampNeg (mx_i h 382 ((129 + i4) - 4).toNatClampNeg) := ⟨_, rfl⟩
    rw [← e20]
    have H := H h19 e20
    have G21 : mxG h19 := e20 ▸ mxG_wi G
    refine wp_steps (i' := 20) (ls' := [some (.ref 381), some (.int i1), some (.int i2), some (.int i3), some (.int (i4 + (-1)))]) (st' := []) (h' := h19) (P := True) 1 rfl rfl trivial ?_
    refine wp_J (j := 2) (st' := []) rfl rfl ?_
    exact H 
/-! 252: StoneBacksModel.moves(III)V -/
set_option maxRecDepth 8000 in
theorem tr_252_0 {d : Nat} {h : mxH} {Q : mxO → mxH → Prop} {i1 : Int32} {i2 : Int32} {i3 : Int32} (G : mxG h)  (H : (vp_in ((33 + (6 * i1)) + (0 : Int32)) 769 ∧ (∀ h2, h2 = W_197 h i1 (0 : Int32) ((V_196 (mx_i h 382) i1 (0 : Int32)) - i3) → (vp_in ((33 + (6 * i2)) + (0 : Int32)) 769 ∧ (∀ h7, h7 = W_197 h2 i2 (0 : Int32) (V_192 (mx_i h2 382) (9999 : Int32) ((V_196 (mx_i h2 382) i2 (0 : Int32)) + i3)) → Q (.inl none) h7))))) : mx_wp (d + 1) 252 0 (mx_fr 252 [.ref 381, .int i1, .int i2, .int i3]) [] h Q := by
  show mx_wp (d + 1) 252 0 [some (.ref 381), some (.int i1), some (.int i2), some (.int i3)] [] h Q
  refine wp_steps (i' := 6) (ls' := [some (.ref 381), some (.int i1), some (.int i2), some (.int i3)]) (st' := [.int 0, .int i1, .ref 381, .int 0, .int i1, .ref 381]) (h' := h) (P := True) 6 rfl rfl trivial ?_
  obtain ⟨o1, H⟩ := H
  refine wp_call (b := false) (y' := 196) (as := [.ref 381, .int i1, .int 0]) (rest := [.int 0, .int i1, .ref 381]) (P := ((mxT 381).1 = mxRc 196 ∧ mxG h)) rfl (by with_unfolding_all rfl) ⟨(congrArg Prod.fst sT_381), G⟩ (Nat.le_of_ble_eq_true rfl) (sp_196 G o1 ?_)
  show mx_wp (d + 1) 252 7 [some (.ref 381), some (.int i1), some (.int i2), some (.int i3)] [.int (V_196 (mx_i h 382) i1 (0 : Int32)), .int 0, .int i1, .ref 381] h Q
  refine wp_steps (i' := 9) (ls' := [some (.ref 381), some (.int i1), some (.int i2), some (.int i3)]) (st' := [.int ((V_196 (mx_i h 382) i1 (0 : Int32)) - i3), .int 0, .int i1, .ref 381]) (h' := h) (P := True) 2 rfl rfl trivial ?_
  refine wp_call (b := false) (y' := 197) (as := [.ref 381, .int i1, .int 0, .int ((V_196 (mx_i h 382) i1 (0 : Int32)) - i3)]) (rest := []) (P := ((mxT 381).1 = mxRc 197 ∧ mxG h)) rfl (by with_unfolding_all rfl) ⟨(congrArg Prod.fst sT_381), G⟩ (Nat.le_of_ble_eq_true rfl) (sp_197 G o1 ?_)
  show mx_wp (d + 1) 252 10 [some (.ref 381), some (.int i1), some (.int i2), some (.int i3)] [] (W_197 h i1 (0 : Int32) ((V_196 (mx_i h 382) i1 (0 : Int32)) - i3)) Q
  obtain ⟨h2, e3⟩ : ∃ z9, z9 = W_197 h i1 (0 : Int32) ((V_196 (mx_i h 382) i1 (0 : Int32)) - i3) := ⟨_, rfl⟩
  rw [← e3]
  have H := H h2 e3
  have K5 : mxK h h2 := e3 ▸ KW_197
  have G4 : mxG h2 := mxK_G K5 G
  refine wp_steps (i' := 17) (ls' := [some (.ref 381), some (.int i1), some (.int i2), some (.int i3)]) (st' := [.int 0, .int i2, .ref 381, .int 9999, .int 0, .int i2, .ref 381]) (h' := h2) (P := True) 7 rfl rfl trivial ?_
  obtain ⟨o6, H⟩ := H
  refine wp_call (b := false) (y' := 196) (as := [.ref 381, .int i2, .int 0]) (rest := [.int 9999, .int 0, .int i2, .ref 381]) (P := ((mxT 381).1 = mxRc 196 ∧ mxG h2)) rfl (by with_unfolding_all rfl) ⟨(congrArg Prod.fst sT_381), G4⟩ (Nat.le_of_ble_eq_true rfl) (sp_196 G4 o6 ?_)
  show mx_wp (d + 1) 252 18 [some (.ref 381), some (.int i1), some (.int i2), some (.int i3)] [.int (V_196 (mx_i h2 382) i2 (0 : Int32)), .int 9999, .int 0, .int i2, .ref 381] h2 Q
  refine wp_steps (i' := 20) (ls' := [some (.ref 381), some (.int i1), some (.int i2), some (.int i3)]) (st' := [.int ((V_196 (mx_i h2 382) i2 (0 : Int32)) + i3), .int 9999, .int 0, .int i2, .ref 381]) (h' := h2) (P := True) 2 rfl rfl trivial ?_
  refine wp_call (b := false) (y' := 192) (as := [.int 9999, .int ((V_196 (mx_i h2 382) i2 (0 : Int32)) + i3)]) (rest := [.int 0, .int i2, .ref 381]) (P := True) rfl (by with_unfolding_all rfl) trivial (Nat.le_of_ble_eq_true rfl) (sp_192 G4 ?_)
  show mx_wp (d + 1) 252 21 [some (.ref 381), some (.int i1), some (.int i2), some (.int i3)] [.int (V_192 (mx_i h2 382) (9999 : Int32) ((V_196 (mx_i h2 382) i2 (0 : Int32)) + i3)), .int 0, .int i2, .ref 381] h2 Q
  refine wp_call (b := false) (y' := 197) (as := [.ref 381, .int i2, .int 0, .int (V_192 (mx_i h2 382) (9999 : Int32) ((V_196 (mx_i h2 382) i2 (0 : Int32)) + i3))]) (rest := []) (P := ((mxT 381).1 = mxRc 197 ∧ mxG h2)) rfl (by with_unfolding_all rfl) ⟨(congrArg Prod.fst sT_381), G4⟩ (Nat.le_of_ble_eq_true rfl) (sp_197 G4 o6 ?_)
  show mx_wp (d + 1) 252 22 [some (.ref 381), some (.int i1), some (.int i2), some (.int i3)] [] (W_197 h2 i2 (0 : Int32) (V_192 (mx_i h2 382) (9999 : Int32) ((V_196 (mx_i h2 382) i2 (0 : Int32)) + i3))) Q
  obtain ⟨h7, e8⟩ : ∃ z9, z9 = W_197 h2 i2 (0 : Int32) (V_192 (mx_i h2 382) (9999 : Int32) ((V_196 (mx_i h2 382) i2 (0 : Int32)) + i3)) := ⟨_, rfl⟩
  rw [← e8]
  have H := H h7 e8
  have K10 : mxK h2 h7 := e8 ▸ KW_197
  have G9 : mxG h7 := mxK_G K10 G4
  exact wp_end (o := .inl none) (h' := h7) (P := True) rfl rfl trivial H
def W_252 (h : mxH) (i1 : Int32) (i2 : Int32) (i3 : Int32) : mxH := (W_197 (W_197 h i1 (0 : Int32) ((V_196 (mx_i h 382) i1 (0 : Int32)) - i3)) i2 (0 : Int32) (V_192 (mx_i (W_197 h i1 (0 : Int32) ((V_196 (mx_i h 382) i1 (0 : Int32)) - i3)) 382) (9999 : Int32) ((V_196 (mx_i (W_197 h i1 (0 : Int32) ((V_196 (mx_i h 382) i1 (0 : Int32)) - i3)) 382) i2 (0 : Int32)) + i3)))
theorem KW_252 {h : mxH} {i1 : Int32} {i2 : Int32} {i3 : Int32} : mxK h (W_252 h i1 i2 i3) := by
  unfold W_252
  repeat' (first | with_reducible exact mxK_rfl | with_reducible exact mxK_wi | with_reducible exact mxK_wrow | with_reducible refine mxK_ite ?_ ?_ | with_reducible refine mxK_tr ?_ mxK_wi | with_reducible refine mxK_tr ?_ mxK_wrow | with_reducible exact KW_197 | with_reducible refine mxK_tr ?_ KW_197)
theorem sp_252 {d : Nat} {h : mxH} {Q : mxO → mxH → Prop} {i1 : Int32} {i2 : Int32} {i3 : Int32} (G : mxG h)  (x0 : vp_in ((33 + (6 * i1)) + (0 : Int32)) 769) (x1 : vp_in ((33 + (6 * i2)) + (0 : Int32)) 769) (k : Q (.inl none) (W_252 h i1 i2 i3)) : mx_wp (d + 1) 252 0 (mx_fr 252 [.ref 381, .int i1, .int i2, .int i3]) [] h Q := by
  unfold W_252 at k
  have hob : (vp_in ((33 + (6 * i1)) + (0 : Int32)) 769 ∧ (vp_in ((33 + (6 * i2)) + (0 : Int32)) 769 ∧ True)) := ⟨x0, ⟨x1, trivial⟩⟩
  refine tr_252_0 G  ?_
  obtain ⟨q0, hob⟩ := hob
  refine ⟨q0, ?_⟩
  intro h2 eh2
  subst eh2
  obtain ⟨q0, hob⟩ := hob
  refine ⟨q0, ?_⟩
  intro h7 eh7
  subst eh7
  exact k
/-! 262: StoneBacksModel.wayOf(II)I -/
def H_262_11 (d : Nat) (h : mxH) (i2 : Int32) (i3 : Int32) (i4 : Int32) (i5 : Int32) (Q : mxO → mxH → Prop) : Prop := ∀ (w1 : Option Value) (w6 : Option Value), mx_wp d 262 11 [some (.ref 381), w1, some (.int i2), some (.int i3), some (.int i4), some (.int i5), w6] [] h Q
set_option maxRecDepth 8000 in
theorem tr_262_0 {d : Nat} {h : mxH} {Q : mxO → mxH → Prop} {i1 : Int32} {i2 : Int32} (G : mxG h)  (H : (cB (mx_i h 382 4) 10 ∧ (vp_in ((33 + (6 * i1)) + (2 : Int32)) 769 ∧ H_262_11 (d + 3) h i2 (V_205 (mx_i h 382) i1) 0 (V_196 (mx_i h 382) i1 (2 : Int32)) Q))) : mx_wp (d + 3) 262 0 (mx_fr 262 [.ref 381, .int i1, .int i2]) [] h Q := by
  show mx_wp (d + 3) 262 0 [some (.ref 381), some (.int i1), some (.int i2), none, none, none, none] [] h Q
  refine wp_steps (i' := 2) (ls' := [some (.ref 381), some (.int i1), some (.int i2), none, none, none, none]) (st' := [.int i1, .ref 381]) (h' := h) (P := True) 2 rfl rfl trivial ?_
  obtain ⟨o1, H⟩ := H
  refine wp_call (b := false) (y' := 205) (as := [.ref 381, .int i1]) (rest := []) (P := ((mxT 381).1 = mxRc 205 ∧ mxG h)) rfl (by with_unfolding_all rfl) ⟨(congrArg Prod.fst sT_381), G⟩ (Nat.le_of_ble_eq_true rfl) (sp_205 G o1 ?_)
  show mx_wp (d + 3) 262 3 [some (.ref 381), some (.int i1), some (.int i2), none, none, none, none] [.int (V_205 (mx_i h 382) i1)] h Q
  refine wp_steps (i' := 9) (ls' := [some (.ref 381), some (.int i1), some (.int i2), some (.int (V_205 (mx_i h 382) i1)), some (.int 0), none, none]) (st' := [.int 2, .int i1, .ref 381]) (h' := h) (P := True) 6 rfl rfl trivial ?_
  obtain ⟨o2, H⟩ := H
  refine wp_call (b := false) (y' := 196) (as := [.ref 381, .int i1, .int 2]) (rest := []) (P := ((mxT 381).1 = mxRc 196 ∧ mxG h)) rfl (by with_unfolding_all rfl) ⟨(congrArg Prod.fst sT_381), G⟩ (Nat.le_of_ble_eq_true rfl) (sp_196 G o2 ?_)
  show mx_wp (d + 3) 262 10 [some (.ref 381), some (.int i1), some (.int i2), some (.int (V_205 (mx_i h 382) i1)), some (.int 0), none, none] [.int (V_196 (mx_i h 382) i1 (2 : Int32))] h Q
  refine wp_steps (i' := 11) (ls' := [some (.ref 381), some (.int i1), some (.int i2), some (.int (V_205 (mx_i h 382) i1)), some (.int 0), some (.int (V_196 (mx_i h 382) i1 (2 : Int32))), none]) (st' := []) (h' := h) (P := True) 1 rfl rfl trivial ?_
  exact H _ _
set_option maxRecDepth 8000 in
theorem tr_262_11 {d : Nat} {h : mxH} {Q : mxO → mxH → Prop}  {i2 : Int32} {i3 : Int32} {i4 : Int32} {i5 : Int32} (G : mxG h)  (H : ((i5 = i2 → Q (.inl (some (.int i4))) h) ∧ (¬ i5 = i2 → (∀ (v2 : Int32), v2 = ((if i5 < i2 then (i5 + 1) else (i5 - 1)) : Int32) → (((V_239 (mx_i h 382) i3 i5 v2) = 0 → Q (.inl (some (.int (-1)))) h) ∧ (¬ (V_239 (mx_i h 382) i3 i5 v2) = 0 → (vp_in (9 + v2) 769 ∧ H_262_11 (d + 3) h i2 i3 (i4 + (1 + ((i3 / 10) * (mx_i h 382 (9 + v2).toNatClampNeg)))) v2 Q))))))) : H_262_11 (d + 3) h i2 i3 i4 i5 Q := by
  intro w1 w6
  show mx_wp (d + 3) 262 11 [some (.ref 381), w1, some (.int i2), some (.int i3), some (.int i4), some (.int i5), w6] [] h Q
  refine wp_steps (i' := 13) (ls' := [some (.ref 381), w1, some (.int i2), some (.int i3), some (.int i4), some (.int i5), w6]) (st' := [.int i2, .int i5]) (h' := h) (P := True) 2 rfl rfl trivial ?_
  refine wp_br (P := True) (c := i5 = i2) (t := 51) (st' := []) rfl rfl trivial (fun c1 => ?_) (fun c1 => ?_)
  · skip
    have H := H.1 c1
    refine wp_steps (i' := 52) (ls' := [some (.ref 381), w1, some (.int i2), some (.int i3), some (.int i4), some (.int i5), w6]) (st' := [.int i4]) (h' := h) (P := True) 1 rfl rfl trivial ?_
    exact wp_end (o := .inl (some (.int i4))) (h' := h) (P := True) rfl rfl trivial H
  · skip
    have H := H.2 c1
    refine wp_steps (i' := 16) (ls' := [some (.ref 381), w1, some (.int i2), some (.int i3), some (.int i4), some (.int i5), w6]) (st' := [.int i2, .int i5]) (h' := h) (P := True) 2 rfl rfl trivial ?_
    have J : ∀ (v2 : Int32) (ev2 : v2 = ((if i5 < i2 then (i5 + 1) else (i5 - 1)) : Int32)), mx_wp (d + 3) 262 24 [some (.ref 381), w1, some (.int i2), some (.int i3), some (.int i4), some (.int i5), w6] [.int v2] h Q := by
      intro v2 ev2
      have H := H v2 ev2
      refine wp_steps (i' := 29) (ls' := [some (.ref 381), w1, some (.int i2), some (.int i3), some (.int i4), some (.int i5), some (.int v2)]) (st' := [.int v2, .int i5, .int i3, .ref 381]) (h' := h) (P := True) 5 rfl rfl trivial ?_
      refine wp_call (b := false) (y' := 239) (as := [.ref 381, .int i3, .int i5, .int v2]) (rest := []) (P := ((mxT 381).1 = mxRc 239 ∧ mxG h)) rfl (by with_unfolding_all rfl) ⟨(congrArg Prod.fst sT_381), G⟩ (Nat.le_of_ble_eq_true rfl) (sp_239 G ?_)
      show mx_wp (d + 3) 262 30 [some (.ref 381), w1, some (.int i2), some (.int i3), some (.int i4), some (.int i5), some (.int v2)] [.int (V_239 (mx_i h 382) i3 i5 v2)] h Q
      refine wp_br (P := True) (c := ¬ (V_239 (mx_i h 382) i3 i5 v2) = 0) (t := 33) (st' := []) rfl rfl trivial (fun c3 => ?_) (fun c3 => ?_)
      · skip
        have H := H.2 c3
        obtain ⟨o4, H⟩ := H
        refine wp_steps (i' := 50) (ls' := [some (.ref 381), w1, some (.int i2), some (.int i3), some (.int (i4 + (1 + ((i3 / 10) * (mx_i h 382 (9 + v2).toNatClampNeg))))), some (.int v2), some (.int v2)]) (st' := []) (h' := h) (P := (¬ (10 : Int32) = 0) ∧ ((mxT 381).1 = 11 ∧ mxG h) ∧ (((mxT 382).1 = 50 ∧ mxG h) ∧ vp_in (9 + v2) (mxT 382).2) ∧ True) 17 rfl rfl ⟨(by decide), ⟨(congrArg Prod.fst sT_381), G⟩, (cA sT_382 G o4), trivial⟩ ?_
        refine wp_J (j := 11) (st' := []) rfl rfl ?_
        exact H _ _
      · have c3 := Decidable.of_not_not c3
        have H := H.1 c3
        refine wp_steps (i' := 32) (ls' := [some (.ref 381), w1, some (.int i2), some (.int i3), some (.int i4), some (.int i5), some (.int v2)]) (st' := [.int (-1)]) (h' := h) (P := True) 1 rfl rfl trivial ?_
        exact wp_end (o := .inl (some (.int (-1)))) (h' := h) (P := True) rfl rfl trivial H
    refine wp_br (P := True) (c := i2 ≤ i5) (t := 21) (st' := []) rfl rfl trivial (fun c5 => ?_) (fun c5 => ?_)
    · have c5 := Int32.not_lt.mpr c5
      refine wp_steps (i' := 24) (ls' := [some (.ref 381), w1, some (.int i2), some (.int i3), some (.int i4), some (.int i5), w6]) (st' := [.int (i5 - 1)]) (h' := h) (P := True) 3 rfl rfl trivial ?_
      exact J _ (by rw [if_neg c5])
    · have c5 := Int32.not_le.mp c5
      refine wp_steps (i' := 20) (ls' := [some (.ref 381), w1, some (.int i2), some (.int i3), some (.int i4), some (.int i5), w6]) (st' := [.int (i5 + 1)]) (h' := h) (P := True) 3 rfl rfl trivial ?_
      refine wp_J (j := 24) (st' := [.int (i5 + 1)]) rfl rfl ?_
      exact J _ (by rw [if_pos c5])
/-! 265: StoneBacksModel.cross(I)Z -/
set_option maxRecDepth 8000 in
theorem tr_265_0 {d : Nat} {h : mxH} {Q : mxO → mxH → Prop} {i1 : Int32} (G : mxG h)  (H : (((V_191 (mx_i h 382) i1 (0 : Int32) ((mx_i h 382 3) - 1)) = 0 ∨ (V_191 (mx_i h 382) i1 (0 : Int32) ((mx_i h 382 3) - 1)) = 1) ∧ (∀ (v2 : Int32), v2 = ((if (V_200 (mx_i h 382) i1) = 0 then 1 else 0) : Int32) → (∀ h3, h3 = mx_wi h 381 0 v2 → ((((mx_i h3 381 0) = 0 → (cB (mx_i h3 382 4) 10 ∧ True)) ∧ (¬ (mx_i h3 381 0) = 0 → True)) ∧ (∀ (v6 : Int32), v6 = ((if (mx_i h3 381 0) = 0 then (if (mx_i h3 382 6) < (V_205 (mx_i h3 382) i1) then 0 else 1) else 0) : Int32) → Q (.inl (some (.int v6))) h3)))))) : mx_wp (d + 3) 265 0 (mx_fr 265 [.ref 381, .int i1]) [] h Q := by
  show mx_wp (d + 3) 265 0 [some (.ref 381), some (.int i1)] [] h Q
  refine wp_steps (i' := 3) (ls' := [some (.ref 381), some (.int i1)]) (st' := [.int i1, .ref 381, .ref 381]) (h' := h) (P := True) 3 rfl rfl trivial ?_
  obtain ⟨o1, H⟩ := H
  refine wp_call (b := false) (y' := 200) (as := [.ref 381, .int i1]) (rest := [.ref 381]) (P := ((mxT 381).1 = mxRc 200 ∧ mxG h)) rfl (by with_unfolding_all rfl) ⟨(congrArg Prod.fst sT_381), G⟩ (Nat.le_of_ble_eq_true rfl) (sp_200 G o1 ?_)
  show mx_wp (d + 3) 265 4 [some (.ref 381), some (.int i1)] [.int (V_200 (mx_i h 382) i1), .ref 381] h Q
  have J : ∀ (v2 : Int32) (ev2 : v2 = ((if (V_200 (mx_i h 382) i1) = 0 then 1 else 0) : Int32)), mx_wp (d + 3) 265 8 [some (.ref 381), some (.int i1)] [.int v2, .ref 381] h Q := by
    intro v2 ev2
    have H := H v2 ev2
    refine wp_steps (i' := 9) (ls' := [some (.ref 381), some (.int i1)]) (st' := []) (h' := mx_wi h 381 0 v2) (P := ((mxT 381).1 = 11 ∧ mxG h) ∧ True) 1 rfl rfl ⟨⟨(congrArg Prod.fst sT_381), G⟩, trivial⟩ ?_
    obtain ⟨h3, e4⟩ : ∃ z9, z9 = mx_wi h 381 0 v2 := ⟨_, rfl⟩
    rw [← e4]
    have H := H h3 e4
    have G5 : mxG h3 := e4 ▸ mxG_wi G
    refine wp_steps (i' := 11) (ls' := [some (.ref 381), some (.int i1)]) (st' := [.int (mx_i h3 381 0)]) (h' := h3) (P := ((mxT 381).1 = 11 ∧ mxG h3) ∧ True) 2 rfl rfl ⟨⟨(congrArg Prod.fst sT_381), G5⟩, trivial⟩ ?_
    have J : ∀ (v6 : Int32) (ev6 : v6 = ((if (mx_i h3 381 0) = 0 then (if (mx_i h3 382 6) < (V_205 (mx_i h3 382) i1) then 0 else 1) else 0) : Int32)), mx_wp (d + 3) 265 23 [some (.ref 381), some (.int i1)] [.int v6] h3 Q := by
      intro v6 ev6
      have H := H.2 v6 ev6
      exact wp_end (o := .inl (some (.int v6))) (h' := h3) (P := (v6 = 0 ∨ v6 = 1)) rfl rfl (b01 ev6 (by repeat' (first | exact Or.inl rfl | exact Or.inr rfl | split))) H
    have H := H.1
    refine wp_br (P := True) (c := ¬ (mx_i h3 381 0) = 0) (t := 22) (st' := []) rfl rfl trivial (fun c7 => ?_) (fun c7 => ?_)
    · skip
      refine wp_steps (i' := 23) (ls' := [some (.ref 381), some (.int i1)]) (st' := [.int 0]) (h' := h3) (P := True) 1 rfl rfl trivial ?_
      exact J _ (by rw [if_neg c7])
    · have c7 := Decidable.of_not_not c7
      have H := H.1 c7
      refine wp_steps (i' := 14) (ls' := [some (.ref 381), some (.int i1)]) (st' := [.int i1, .ref 381]) (h' := h3) (P := True) 2 rfl rfl trivial ?_
      obtain ⟨o8, H⟩ := H
      refine wp_call (b := false) (y' := 205) (as := [.ref 381, .int i1]) (rest := []) (P := ((mxT 381).1 = mxRc 205 ∧ mxG h3)) rfl (by with_unfolding_all rfl) ⟨(congrArg Prod.fst sT_381), G5⟩ (Nat.le_of_ble_eq_true rfl) (sp_205 G5 o8 ?_)
      show mx_wp (d + 3) 265 15 [some (.ref 381), some (.int i1)] [.int (V_205 (mx_i h3 382) i1)] h3 Q
      refine wp_steps (i' := 19) (ls' := [some (.ref 381), some (.int i1)]) (st' := [.int (mx_i h3 382 6), .int (V_205 (mx_i h3 382) i1)]) (h' := h3) (P := ((mxT 381).1 = 11 ∧ mxG h3) ∧ (((mxT 382).1 = 50 ∧ mxG h3) ∧ vp_in 6 (mxT 382).2) ∧ True) 4 rfl rfl ⟨⟨(congrArg Prod.fst sT_381), G5⟩, (cA sT_382 G5 (vpl rfl)), trivial⟩ ?_
      refine wp_br (P := True) (c := (mx_i h3 382 6) < (V_205 (mx_i h3 382) i1)) (t := 22) (st' := []) rfl rfl trivial (fun c9 => ?_) (fun c9 => ?_)
      · skip
        refine wp_steps (i' := 23) (ls' := [some (.ref 381), some (.int i1)]) (st' := [.int 0]) (h' := h3) (P := True) 1 rfl rfl trivial ?_
        exact J _ (by rw [if_pos c7, if_pos c9])
      · skip
        refine wp_steps (i' := 21) (ls' := [some (.ref 381), some (.int i1)]) (st' := [.int 1]) (h' := h3) (P := True) 1 rfl rfl trivial ?_
        refine wp_J (j := 23) (st' := [.int 1]) rfl rfl ?_
        exact J _ (by rw [if_pos c7, if_neg c9])
  refine wp_br (P := True) (c := ¬ (V_200 (mx_i h 382) i1) = 0) (t := 7) (st' := [.ref 381]) rfl rfl trivial (fun c10 => ?_) (fun c10 => ?_)
  · skip
    refine wp_steps (i' := 8) (ls' := [some (.ref 381), some (.int i1)]) (st' := [.int 0, .ref 381]) (h' := h) (P := True) 1 rfl rfl trivial ?_
    exact J _ (by rw [if_neg c10])
  · have c10 := Decidable.of_not_not c10
    refine wp_steps (i' := 6) (ls' := [some (.ref 381), some (.int i1)]) (st' := [.int 1, .ref 381]) (h' := h) (P := True) 1 rfl rfl trivial ?_
    refine wp_J (j := 8) (st' := [.int 1, .ref 381]) rfl rfl ?_
    exact J _ (by rw [if_pos c10])
def V_265 (h : mxH) (i1 : Int32) : Int32 := ((if (mx_i (mx_wi h 381 0 ((if (V_200 (mx_i h 382) i1) = 0 then 1 else 0) : Int32)) 381 0) = 0 then (if (mx_i (mx_wi h 381 0 ((if (V_200 (mx_i h 382) i1) = 0 then 1 else 0) : Int32)) 382 6) < (V_205 (mx_i (mx_wi h 381 0 ((if (V_200 (mx_i h 382) i1) = 0 then 1 else 0) : Int32)) 382) i1) then 0 else 1) else 0) : Int32)
def W_265 (h : mxH) (i1 : Int32) : mxH := (mx_wi h 381 0 ((if (V_200 (mx_i h 382) i1) = 0 then 1 else 0) : Int32))
theorem KW_265 {h : mxH} {i1 : Int32} : mxK h (W_265 h i1) := by
  unfold W_265
  repeat' (first | with_reducible exact mxK_rfl | with_reducible exact mxK_wi | with_reducible exact mxK_wrow | with_reducible refine mxK_ite ?_ ?_ | with_reducible refine mxK_tr ?_ mxK_wi | with_reducible refine mxK_tr ?_ mxK_wrow)
theorem sp_265 {d : Nat} {h : mxH} {Q : mxO → mxH → Prop} {i1 : Int32} (G : mxG h)  (x0 : ((V_191 (mx_i h 382) i1 (0 : Int32) ((mx_i h 382 3) - 1)) = 0 ∨ (V_191 (mx_i h 382) i1 (0 : Int32) ((mx_i h 382 3) - 1)) = 1)) (x1 : (((mx_i (mx_wi h 381 0 ((if (V_200 (mx_i h 382) i1) = 0 then 1 else 0) : Int32)) 381 0) = 0 → (cB (mx_i (mx_wi h 381 0 ((if (V_200 (mx_i h 382) i1) = 0 then 1 else 0) : Int32)) 382 4) 10 ∧ True)) ∧ (¬ (mx_i (mx_wi h 381 0 ((if (V_200 (mx_i h 382) i1) = 0 then 1 else 0) : Int32)) 381 0) = 0 → True))) (k : Q (.inl (some (.int (V_265 h i1)))) (W_265 h i1)) : mx_wp (d + 3) 265 0 (mx_fr 265 [.ref 381, .int i1]) [] h Q := by
  unfold V_265 W_265 at k
  have hob : (((V_191 (mx_i h 382) i1 (0 : Int32) ((mx_i h 382 3) - 1)) = 0 ∨ (V_191 (mx_i h 382) i1 (0 : Int32) ((mx_i h 382 3) - 1)) = 1) ∧ ((((mx_i (mx_wi h 381 0 ((if (V_200 (mx_i h 382) i1) = 0 then 1 else 0) : Int32)) 381 0) = 0 → (cB (mx_i (mx_wi h 381 0 ((if (V_200 (mx_i h 382) i1) = 0 then 1 else 0) : Int32)) 382 4) 10 ∧ True)) ∧ (¬ (mx_i (mx_wi h 381 0 ((if (V_200 (mx_i h 382) i1) = 0 then 1 else 0) : Int32)) 381 0) = 0 → True)) ∧ True)) := ⟨x0, ⟨x1, trivial⟩⟩
  refine tr_265_0 G  ?_
  obtain ⟨q0, hob⟩ := hob
  refine ⟨q0, ?_⟩
  intro v2 ev2
  subst ev2
  intro h3 eh3
  subst eh3
  obtain ⟨q0, hob⟩ := hob
  refine ⟨q0, ?_⟩
  intro v6 ev6
  subst ev6
  exact k
/-! 266: StoneBacksModel.shed(I)I -/
def H_266_32 (d : Nat) (h : mxH) (i2 : Int32) (i3 : Int32) (i4 : Int32) (i5 : Int32) (Q : mxO → mxH → Prop) : Prop := ∀ (w1 : Option Value), mx_wp d 266 32 [some (.ref 381), w1, some (.int i2), some (.int i3), some (.int i4), some (.int i5)] [] h Q
set_option maxRecDepth 8000 in
theorem tr_266_0 {d : Nat} {h : mxH} {Q : mxO → mxH → Prop} {i1 : Int32} (G : mxG h)  (H : (((V_191 (mx_i h 382) i1 (0 : Int32) ((mx_i h 382 3) - 1)) = 0 ∨ (V_191 (mx_i h 382) i1 (0 : Int32) ((mx_i h 382 3) - 1)) = 1) ∧ (∀ (v2 : Int32), v2 = ((if (V_200 (mx_i h 382) i1) = 0 then 1 else 0) : Int32) → (∀ h3, h3 = mx_wi h 381 0 v2 → ((0 < (mx_i h3 381 0) → Q (.inl (some (.int 0))) h3) ∧ (¬ 0 < (mx_i h3 381 0) → (cB (mx_i h3 382 4) 10 ∧ (vp_in ((33 + (6 * i1)) + (1 : Int32)) 769 ∧ H_266_32 (d + 2) h3 (V_203 (mx_i h3 382) i1) (V_192 (mx_i h3 382) (mx_i h3 382 6) (V_196 (mx_i h3 382) i1 (1 : Int32))) (-1) 0 Q)))))))) : mx_wp (d + 2) 266 0 (mx_fr 266 [.ref 381, .int i1]) [] h Q := by
  show mx_wp (d + 2) 266 0 [some (.ref 381), some (.int i1), none, none, none, none] [] h Q
  refine wp_steps (i' := 3) (ls' := [some (.ref 381), some (.int i1), none, none, none, none]) (st' := [.int i1, .ref 381, .ref 381]) (h' := h) (P := True) 3 rfl rfl trivial ?_
  obtain ⟨o1, H⟩ := H
  refine wp_call (b := false) (y' := 200) (as := [.ref 381, .int i1]) (rest := [.ref 381]) (P := ((mxT 381).1 = mxRc 200 ∧ mxG h)) rfl (by with_unfolding_all rfl) ⟨(congrArg Prod.fst sT_381), G⟩ (Nat.le_of_ble_eq_true rfl) (sp_200 G o1 ?_)
  show mx_wp (d + 2) 266 4 [some (.ref 381), some (.int i1), none, none, none, none] [.int (V_200 (mx_i h 382) i1), .ref 381] h Q
  have J : ∀ (v2 : Int32) (ev2 : v2 = ((if (V_200 (mx_i h 382) i1) = 0 then 1 else 0) : Int32)), mx_wp (d + 2) 266 8 [some (.ref 381), some (.int i1), none, none, none, none] [.int v2, .ref 381] h Q := by
    intro v2 ev2
    have H := H v2 ev2
    refine wp_steps (i' := 9) (ls' := [some (.ref 381), some (.int i1), none, none, none, none]) (st' := []) (h' := mx_wi h 381 0 v2) (P := ((mxT 381).1 = 11 ∧ mxG h) ∧ True) 1 rfl rfl ⟨⟨(congrArg Prod.fst sT_381), G⟩, trivial⟩ ?_
    obtain ⟨h3, e4⟩ : ∃ z9, z9 = mx_wi h 381 0 v2 := ⟨_, rfl⟩
    rw [← e4]
    have H := H h3 e4
    have G5 : mxG h3 := e4 ▸ mxG_wi G
    refine wp_steps (i' := 11) (ls' := [some (.ref 381), some (.int i1), none, none, none, none]) (st' := [.int (mx_i h3 381 0)]) (h' := h3) (P := ((mxT 381).1 = 11 ∧ mxG h3) ∧ True) 2 rfl rfl ⟨⟨(congrArg Prod.fst sT_381), G5⟩, trivial⟩ ?_
    refine wp_br (P := True) (c := (mx_i h3 381 0) ≤ 0) (t := 14) (st' := []) rfl rfl trivial (fun c6 => ?_) (fun c6 => ?_)
    · have c6 := Int32.not_lt.mpr c6
      have H := H.2 c6
      refine wp_steps (i' := 16) (ls' := [some (.ref 381), some (.int i1), none, none, none, none]) (st' := [.int i1, .ref 381]) (h' := h3) (P := True) 2 rfl rfl trivial ?_
      obtain ⟨o7, H⟩ := H
      refine wp_call (b := false) (y' := 203) (as := [.ref 381, .int i1]) (rest := []) (P := ((mxT 381).1 = mxRc 203 ∧ mxG h3)) rfl (by with_unfolding_all rfl) ⟨(congrArg Prod.fst sT_381), G5⟩ (Nat.le_of_ble_eq_true rfl) (sp_203 G5 o7 ?_)
      show mx_wp (d + 2) 266 17 [some (.ref 381), some (.int i1), none, none, none, none] [.int (V_203 (mx_i h3 382) i1)] h3 Q
      refine wp_steps (i' := 25) (ls' := [some (.ref 381), some (.int i1), some (.int (V_203 (mx_i h3 382) i1)), none, none, none]) (st' := [.int 1, .int i1, .ref 381, .int (mx_i h3 382 6)]) (h' := h3) (P := ((mxT 381).1 = 11 ∧ mxG h3) ∧ (((mxT 382).1 = 50 ∧ mxG h3) ∧ vp_in 6 (mxT 382).2) ∧ True) 8 rfl rfl ⟨⟨(congrArg Prod.fst sT_381), G5⟩, (cA sT_382 G5 (vpl rfl)), trivial⟩ ?_
      obtain ⟨o8, H⟩ := H
      refine wp_call (b := false) (y' := 196) (as := [.ref 381, .int i1, .int 1]) (rest := [.int (mx_i h3 382 6)]) (P := ((mxT 381).1 = mxRc 196 ∧ mxG h3)) rfl (by with_unfolding_all rfl) ⟨(congrArg Prod.fst sT_381), G5⟩ (Nat.le_of_ble_eq_true rfl) (sp_196 G5 o8 ?_)
      show mx_wp (d + 2) 266 26 [some (.ref 381), some (.int i1), some (.int (V_203 (mx_i h3 382) i1)), none, none, none] [.int (V_196 (mx_i h3 382) i1 (1 : Int32)), .int (mx_i h3 382 6)] h3 Q
      refine wp_call (b := false) (y' := 192) (as := [.int (mx_i h3 382 6), .int (V_196 (mx_i h3 382) i1 (1 : Int32))]) (rest := []) (P := True) rfl (by with_unfolding_all rfl) trivial (Nat.le_of_ble_eq_true rfl) (sp_192 G5 ?_)
      show mx_wp (d + 2) 266 27 [some (.ref 381), some (.int i1), some (.int (V_203 (mx_i h3 382) i1)), none, none, none] [.int (V_192 (mx_i h3 382) (mx_i h3 382 6) (V_196 (mx_i h3 382) i1 (1 : Int32)))] h3 Q
      refine wp_steps (i' := 32) (ls' := [some (.ref 381), some (.int i1), some (.int (V_203 (mx_i h3 382) i1)), some (.int (V_192 (mx_i h3 382) (mx_i h3 382 6) (V_196 (mx_i h3 382) i1 (1 : Int32)))), some (.int (-1)), some (.int 0)]) (st' := []) (h' := h3) (P := True) 5 rfl rfl trivial ?_
      exact H _
    · have c6 := Int32.not_le.mp c6
      have H := H.1 c6
      refine wp_steps (i' := 13) (ls' := [some (.ref 381), some (.int i1), none, none, none, none]) (st' := [.int 0]) (h' := h3) (P := True) 1 rfl rfl trivial ?_
      exact wp_end (o := .inl (some (.int 0))) (h' := h3) (P := True) rfl rfl trivial H
  refine wp_br (P := True) (c := ¬ (V_200 (mx_i h 382) i1) = 0) (t := 7) (st' := [.ref 381]) rfl rfl trivial (fun c9 => ?_) (fun c9 => ?_)
  · skip
    refine wp_steps (i' := 8) (ls' := [some (.ref 381), some (.int i1), none, none, none, none]) (st' := [.int 0, .ref 381]) (h' := h) (P := True) 1 rfl rfl trivial ?_
    exact J _ (by rw [if_neg c9])
  · have c9 := Decidable.of_not_not c9
    refine wp_steps (i' := 6) (ls' := [some (.ref 381), some (.int i1), none, none, none, none]) (st' := [.int 1, .ref 381]) (h' := h) (P := True) 1 rfl rfl trivial ?_
    refine wp_J (j := 8) (st' := [.int 1, .ref 381]) rfl rfl ?_
    exact J _ (by rw [if_pos c9])
set_option maxRecDepth 8000 in
theorem tr_266_32 {d : Nat} {h : mxH} {Q : mxO → mxH → Prop}  {i2 : Int32} {i3 : Int32} {i4 : Int32} {i5 : Int32} (G : mxG h)  (H : ((i5 < ((1 : Int32) <<< ((mx_i h 382 4) &&& 31)) → ((((i5 &&& (i2 ^^^ (-1))) = 0 → (cB (mx_i h 382 4) 10 ∧ True)) ∧ (¬ (i5 &&& (i2 ^^^ (-1))) = 0 → True)) ∧ (∀ (v2 : Int32), v2 = ((if (i5 &&& (i2 ^^^ (-1))) = 0 then (if i3 < (V_204 (mx_i h 382) (i2 &&& (i5 ^^^ (-1)))) then i4 else (if i4 = (-1) then i5 else (if (V_195 (mx_i h 382) i5) < (V_195 (mx_i h 382) i4) then i5 else i4))) else i4) : Int32) → H_266_32 (d + 2) h i2 i3 v2 (i5 + 1) Q))) ∧ (¬ i5 < ((1 : Int32) <<< ((mx_i h 382 4) &&& 31)) → Q (.inl (some (.int i4))) h))) : H_266_32 (d + 2) h i2 i3 i4 i5 Q := by
  intro w1
  show mx_wp (d + 2) 266 32 [some (.ref 381), w1, some (.int i2), some (.int i3), some (.int i4), some (.int i5)] [] h Q
  refine wp_steps (i' := 39) (ls' := [some (.ref 381), w1, some (.int i2), some (.int i3), some (.int i4), some (.int i5)]) (st' := [.int ((1 : Int32) <<< ((mx_i h 382 4) &&& 31)), .int i5]) (h' := h) (P := ((mxT 381).1 = 11 ∧ mxG h) ∧ (((mxT 382).1 = 50 ∧ mxG h) ∧ vp_in 4 (mxT 382).2) ∧ True) 7 rfl rfl ⟨⟨(congrArg Prod.fst sT_381), G⟩, (cA sT_382 G (vpl rfl)), trivial⟩ ?_
  refine wp_br (P := True) (c := ((1 : Int32) <<< ((mx_i h 382 4) &&& 31)) ≤ i5) (t := 67) (st' := []) rfl rfl trivial (fun c1 => ?_) (fun c1 => ?_)
  · have c1 := Int32.not_lt.mpr c1
    have H := H.2 c1
    refine wp_steps (i' := 68) (ls' := [some (.ref 381), w1, some (.int i2), some (.int i3), some (.int i4), some (.int i5)]) (st' := [.int i4]) (h' := h) (P := True) 1 rfl rfl trivial ?_
    exact wp_end (o := .inl (some (.int i4))) (h' := h) (P := True) rfl rfl trivial H
  · have c1 := Int32.not_le.mp c1
    have H := H.1 c1
    refine wp_steps (i' := 45) (ls' := [some (.ref 381), w1, some (.int i2), some (.int i3), some (.int i4), some (.int i5)]) (st' := [.int (i5 &&& (i2 ^^^ (-1)))]) (h' := h) (P := True) 5 rfl rfl trivial ?_
    have J : ∀ (v2 : Int32) (ev2 : v2 = ((if (i5 &&& (i2 ^^^ (-1))) = 0 then (if i3 < (V_204 (mx_i h 382) (i2 &&& (i5 ^^^ (-1)))) then i4 else (if i4 = (-1) then i5 else (if (V_195 (mx_i h 382) i5) < (V_195 (mx_i h 382) i4) then i5 else i4))) else i4) : Int32)), mx_wp (d + 2) 266 65 [some (.ref 381), w1, some (.int i2), some (.int i3), some (.int v2), some (.int i5)] [] h Q := by
      intro v2 ev2
      have H := H.2 v2 ev2
      refine wp_steps (i' := 66) (ls' := [some (.ref 381), w1, some (.int i2), some (.int i3), some (.int v2), some (.int (i5 + 1))]) (st' := []) (h' := h) (P := True) 1 rfl rfl trivial ?_
      refine wp_J (j := 32) (st' := []) rfl rfl ?_
      exact H _
    have H := H.1
    refine wp_br (P := True) (c := ¬ (i5 &&& (i2 ^^^ (-1))) = 0) (t := 65) (st' := []) rfl rfl trivial (fun c3 => ?_) (fun c3 => ?_)
    · skip
      exact J _ (by rw [if_neg c3])
    · have c3 := Decidable.of_not_not c3
      have H := H.1 c3
      refine wp_steps (i' := 52) (ls' := [some (.ref 381), w1, some (.int i2), some (.int i3), some (.int i4), some (.int i5)]) (st' := [.int (i2 &&& (i5 ^^^ (-1))), .ref 381]) (h' := h) (P := True) 6 rfl rfl trivial ?_
      obtain ⟨o4, H⟩ := H
      refine wp_call (b := false) (y' := 204) (as := [.ref 381, .int (i2 &&& (i5 ^^^ (-1)))]) (rest := []) (P := ((mxT 381).1 = mxRc 204 ∧ mxG h)) rfl (by with_unfolding_all rfl) ⟨(congrArg Prod.fst sT_381), G⟩ (Nat.le_of_ble_eq_true rfl) (sp_204 G o4 ?_)
      show mx_wp (d + 2) 266 53 [some (.ref 381), w1, some (.int i2), some (.int i3), some (.int i4), some (.int i5)] [.int (V_204 (mx_i h 382) (i2 &&& (i5 ^^^ (-1))))] h Q
      refine wp_steps (i' := 54) (ls' := [some (.ref 381), w1, some (.int i2), some (.int i3), some (.int i4), some (.int i5)]) (st' := [.int i3, .int (V_204 (mx_i h 382) (i2 &&& (i5 ^^^ (-1))))]) (h' := h) (P := True) 1 rfl rfl trivial ?_
      refine wp_br (P := True) (c := i3 < (V_204 (mx_i h 382) (i2 &&& (i5 ^^^ (-1))))) (t := 65) (st' := []) rfl rfl trivial (fun c5 => ?_) (fun c5 => ?_)
      · skip
        exact J _ (by rw [if_pos c3, if_pos c5])
      · skip
        refine wp_steps (i' := 57) (ls' := [some (.ref 381), w1, some (.int i2), some (.int i3), some (.int i4), some (.int i5)]) (st' := [.int (-1), .int i4]) (h' := h) (P := True) 2 rfl rfl trivial ?_
        refine wp_br (P := True) (c := i4 = (-1)) (t := 63) (st' := []) rfl rfl trivial (fun c6 => ?_) (fun c6 => ?_)
        · skip
          refine wp_steps (i' := 65) (ls' := [some (.ref 381), w1, some (.int i2), some (.int i3), some (.int i5), some (.int i5)]) (st' := []) (h' := h) (P := True) 2 rfl rfl trivial ?_
          exact J _ (by rw [if_pos c3, if_neg c5, if_pos c6])
        · skip
          refine wp_steps (i' := 59) (ls' := [some (.ref 381), w1, some (.int i2), some (.int i3), some (.int i4), some (.int i5)]) (st' := [.int i5]) (h' := h) (P := True) 1 rfl rfl trivial ?_
          refine wp_call (b := false) (y' := 195) (as := [.int i5]) (rest := []) (P := True) rfl (by with_unfolding_all rfl) trivial (Nat.le_of_ble_eq_true rfl) (sp_195 G ?_)
          show mx_wp (d + 2) 266 60 [some (.ref 381), w1, some (.int i2), some (.int i3), some (.int i4), some (.int i5)] [.int (V_195 (mx_i h 382) i5)] h Q
          refine wp_steps (i' := 61) (ls' := [some (.ref 381), w1, some (.int i2), some (.int i3), some (.int i4), some (.int i5)]) (st' := [.int i4, .int (V_195 (mx_i h 382) i5)]) (h' := h) (P := True) 1 rfl rfl trivial ?_
          refine wp_call (b := false) (y' := 195) (as := [.int i4]) (rest := [.int (V_195 (mx_i h 382) i5)]) (P := True) rfl (by with_unfolding_all rfl) trivial (Nat.le_of_ble_eq_true rfl) (sp_195 G ?_)
          show mx_wp (d + 2) 266 62 [some (.ref 381), w1, some (.int i2), some (.int i3), some (.int i4), some (.int i5)] [.int (V_195 (mx_i h 382) i4), .int (V_195 (mx_i h 382) i5)] h Q
          refine wp_br (P := True) (c := (V_195 (mx_i h 382) i4) ≤ (V_195 (mx_i h 382) i5)) (t := 65) (st' := []) rfl rfl trivial (fun c7 => ?_) (fun c7 => ?_)
          · have c7 := Int32.not_lt.mpr c7
            exact J _ (by rw [if_pos c3, if_neg c5, if_neg c6, if_neg c7])
          · have c7 := Int32.not_le.mp c7
            refine wp_steps (i' := 65) (ls' := [some (.ref 381), w1, some (.int i2), some (.int i3), some (.int i5), some (.int i5)]) (st' := []) (h' := h) (P := True) 2 rfl rfl trivial ?_
            exact J _ (by rw [if_pos c3, if_neg c5, if_neg c6, if_pos c7])
def F_266_32 (r : Nat → Int32) (i2 : Int32) (i3 : Int32) (z : Nat) (s : Int32) : Int32 := ((if ((nI z) &&& (i2 ^^^ (-1))) = 0 then (if i3 < (V_204 (r) (i2 &&& ((nI z) ^^^ (-1)))) then s else (if s = (-1) then (nI z) else (if (V_195 (r) (nI z)) < (V_195 (r) s) then (nI z) else s))) else s) : Int32)
theorem lp_266_32 {d : Nat} {h : mxH} {Q : mxO → mxH → Prop} {i2 : Int32} {i3 : Int32} {s0 : Int32} {n : Nat} (z0 : Nat) (G : mxG h)  (hB : ((1 : Int32) <<< ((mx_i h 382 4) &&& 31)) = nI n) (hn : n < 2147483648) (hz : z0 ≤ n) (ob : ∀ z, z0 ≤ z → z < n → (((((nI z) &&& (i2 ^^^ (-1))) = 0 → (cB (mx_i h 382 4) 10 ∧ True)) ∧ (¬ ((nI z) &&& (i2 ^^^ (-1))) = 0 → True)) ∧ True)) (k : Q (.inl (some (.int (fz (F_266_32 (mx_i h 382) i2 i3) z0 n s0)))) h) : H_266_32 (d + 2) h i2 i3 s0 (nI z0) Q := by
  have L : ∀ (j z : Nat), z0 ≤ z → z + j = n → H_266_32 (d + 2) h i2 i3 (fz (F_266_32 (mx_i h 382) i2 i3) z0 z s0) (nI z) Q := by
    intro j
    induction j with
    | zero =>
      intro z hz0 hzn
      have hzn : z = n := by omega
      subst hzn
      refine tr_266_32 G  ⟨fun c9 => absurd (hB ▸ c9) Int32.lt_irrefl, fun c9 => k⟩
    | succ j ih =>
      intro z hz0 hzn
      have hih := ih (z + 1) (by omega) (by omega)
      rw [nI_succ, fz_s hz0] at hih
      have hob := ob z hz0 (by omega)
      refine tr_266_32 G  ⟨fun c9 => ?_, fun c9 => absurd (hB.symm ▸ nI_lt (by omega) hn) c9⟩
      obtain ⟨q0, hob⟩ := hob
      refine ⟨q0, ?_⟩
      intro v2 ev2
      subst ev2
      exact hih
  have L0 := L (n - z0) z0 (Nat.le_refl _) (by omega)
  simp only [fz_0] at L0
  exact L0
/-! 267: StoneBacksModel.leastBy(II)I -/
def H_267_2 (d : Nat) (h : mxH) (i1 : Int32) (i2 : Int32) (i3 : Int32) (Q : mxO → mxH → Prop) : Prop := ∀ (w4 : Option Value) (w5 : Option Value), mx_wp d 267 2 [some (.ref 381), some (.int i1), some (.int i2), some (.int i3), w4, w5] [] h Q
def H_267_18 (d : Nat) (h : mxH) (i1 : Int32) (i2 : Int32) (i3 : Int32) (Q : mxO → mxH → Prop) : Prop := ∀ (w4 : Option Value) (w5 : Option Value), mx_wp d 267 18 [some (.ref 381), some (.int i1), some (.int i2), some (.int i3), w4, w5] [] h Q
def H_267_23 (d : Nat) (h : mxH) (i1 : Int32) (i2 : Int32) (i3 : Int32) (i4 : Int32) (Q : mxO → mxH → Prop) : Prop := ∀ (w5 : Option Value), mx_wp d 267 23 [some (.ref 381), some (.int i1), some (.int i2), some (.int i3), some (.int i4), w5] [] h Q
def H_267_42 (d : Nat) (h : mxH) (i1 : Int32) (i2 : Int32) (i3 : Int32) (i4 : Int32) (i5 : Int32) (Q : mxO → mxH → Prop) : Prop := mx_wp d 267 42 [some (.ref 381), some (.int i1), some (.int i2), some (.int i3), some (.int i4), some (.int i5)] [] h Q
def H_267_76 (d : Nat) (h : mxH) (i1 : Int32) (i2 : Int32) (i3 : Int32) (i4 : Int32) (Q : mxO → mxH → Prop) : Prop := ∀ (w5 : Option Value), mx_wp d 267 76 [some (.ref 381), some (.int i1), some (.int i2), some (.int i3), some (.int i4), w5] [] h Q
set_option maxRecDepth 8000 in
theorem tr_267_0 {d : Nat} {h : mxH} {Q : mxO → mxH → Prop} {i1 : Int32} {i2 : Int32} (G : mxG h)  (H : H_267_2 (d + 2) h i1 i2 0 Q) : mx_wp (d + 2) 267 0 (mx_fr 267 [.ref 381, .int i1, .int i2]) [] h Q := by
  show mx_wp (d + 2) 267 0 [some (.ref 381), some (.int i1), some (.int i2), none, none, none] [] h Q
  refine wp_steps (i' := 2) (ls' := [some (.ref 381), some (.int i1), some (.int i2), some (.int 0), none, none]) (st' := []) (h' := h) (P := True) 2 rfl rfl trivial ?_
  exact H _ _
set_option maxRecDepth 8000 in
theorem tr_267_2 {d : Nat} {h : mxH} {Q : mxO → mxH → Prop}  {i1 : Int32} {i2 : Int32} {i3 : Int32} (G : mxG h)  (H : ((i3 < 1024 → (∀ (v2 : Int32), v2 = ((if i3 = 0 then 0 else 2000000000) : Int32) → (vp_in i3 1024 ∧ (∀ h4, h4 = mx_wi h 388 i3.toNatClampNeg v2 → H_267_2 (d + 2) h4 i1 i2 (i3 + 1) Q)))) ∧ (¬ i3 < 1024 → H_267_18 (d + 2) h i1 i2 0 Q))) : H_267_2 (d + 2) h i1 i2 i3 Q := by
  intro w4 w5
  show mx_wp (d + 2) 267 2 [some (.ref 381), some (.int i1), some (.int i2), some (.int i3), w4, w5] [] h Q
  refine wp_steps (i' := 4) (ls' := [some (.ref 381), some (.int i1), some (.int i2), some (.int i3), w4, w5]) (st' := [.int 1024, .int i3]) (h' := h) (P := True) 2 rfl rfl trivial ?_
  refine wp_br (P := True) (c := 1024 ≤ i3) (t := 16) (st' := []) rfl rfl trivial (fun c1 => ?_) (fun c1 => ?_)
  · have c1 := Int32.not_lt.mpr c1
    have H := H.2 c1
    refine wp_steps (i' := 18) (ls' := [some (.ref 381), some (.int i1), some (.int i2), some (.int 0), w4, w5]) (st' := []) (h' := h) (P := True) 2 rfl rfl trivial ?_
    exact H _ _
  · have c1 := Int32.not_le.mp c1
    have H := H.1 c1
    refine wp_steps (i' := 9) (ls' := [some (.ref 381), some (.int i1), some (.int i2), some (.int i3), w4, w5]) (st' := [.int i3, .int i3, .ref 388]) (h' := h) (P := ((mxT 381).1 = 11 ∧ mxG h) ∧ True) 4 rfl rfl ⟨⟨(congrArg Prod.fst sT_381), G⟩, trivial⟩ ?_
    have J : ∀ (v2 : Int32) (ev2 : v2 = ((if i3 = 0 then 0 else 2000000000) : Int32)), mx_wp (d + 2) 267 13 [some (.ref 381), some (.int i1), some (.int i2), some (.int i3), w4, w5] [.int v2, .int i3, .ref 388] h Q := by
      intro v2 ev2
      have H := H v2 ev2
      obtain ⟨o3, H⟩ := H
      refine wp_steps (i' := 14) (ls' := [some (.ref 381), some (.int i1), some (.int i2), some (.int i3), w4, w5]) (st' := []) (h' := mx_wi h 388 i3.toNatClampNeg v2) (P := (((mxT 388).1 = 50 ∧ mxG h) ∧ vp_in i3 (mxT 388).2) ∧ True) 1 rfl rfl ⟨(cA sT_388 G o3), trivial⟩ ?_
      obtain ⟨h4, e5⟩ : ∃ z9, z9 = mx_wi h 388 i3.toNatClampNeg v2 := ⟨_, rfl⟩
      rw [← e5]
      have H := H h4 e5
      have G6 : mxG h4 := e5 ▸ mxG_wi G
      refine wp_steps (i' := 15) (ls' := [some (.ref 381), some (.int i1), some (.int i2), some (.int (i3 + 1)), w4, w5]) (st' := []) (h' := h4) (P := True) 1 rfl rfl trivial ?_
      refine wp_J (j := 2) (st' := []) rfl rfl ?_
      exact H _ _
    refine wp_br (P := True) (c := ¬ i3 = 0) (t := 12) (st' := [.int i3, .ref 388]) rfl rfl trivial (fun c7 => ?_) (fun c7 => ?_)
    · skip
      refine wp_steps (i' := 13) (ls' := [some (.ref 381), some (.int i1), some (.int i2), some (.int i3), w4, w5]) (st' := [.int 2000000000, .int i3, .ref 388]) (h' := h) (P := True) 1 rfl rfl trivial ?_
      exact J _ (by rw [if_neg c7])
    · have c7 := Decidable.of_not_not c7
      refine wp_steps (i' := 11) (ls' := [some (.ref 381), some (.int i1), some (.int i2), some (.int i3), w4, w5]) (st' := [.int 0, .int i3, .ref 388]) (h' := h) (P := True) 1 rfl rfl trivial ?_
      refine wp_J (j := 13) (st' := [.int 0, .int i3, .ref 388]) rfl rfl ?_
      exact J _ (by rw [if_pos c7])
set_option maxRecDepth 8000 in
theorem tr_267_18 {d : Nat} {h : mxH} {Q : mxO → mxH → Prop}  {i1 : Int32} {i2 : Int32} {i3 : Int32} (G : mxG h)  (H : ((i3 < i2 → H_267_23 (d + 2) h i1 i2 i3 i1 Q) ∧ (¬ i3 < i2 → (vp_in i1 1024 ∧ Q (.inl (some (.int (mx_i h 388 i1.toNatClampNeg)))) h)))) : H_267_18 (d + 2) h i1 i2 i3 Q := by
  intro w4 w5
  show mx_wp (d + 2) 267 18 [some (.ref 381), some (.int i1), some (.int i2), some (.int i3), w4, w5] [] h Q
  refine wp_steps (i' := 20) (ls' := [some (.ref 381), some (.int i1), some (.int i2), some (.int i3), w4, w5]) (st' := [.int i2, .int i3]) (h' := h) (P := True) 2 rfl rfl trivial ?_
  refine wp_br (P := True) (c := i2 ≤ i3) (t := 102) (st' := []) rfl rfl trivial (fun c1 => ?_) (fun c1 => ?_)
  · have c1 := Int32.not_lt.mpr c1
    have H := H.2 c1
    obtain ⟨o2, H⟩ := H
    refine wp_steps (i' := 106) (ls' := [some (.ref 381), some (.int i1), some (.int i2), some (.int i3), w4, w5]) (st' := [.int (mx_i h 388 i1.toNatClampNeg)]) (h' := h) (P := ((mxT 381).1 = 11 ∧ mxG h) ∧ (((mxT 388).1 = 50 ∧ mxG h) ∧ vp_in i1 (mxT 388).2) ∧ True) 4 rfl rfl ⟨⟨(congrArg Prod.fst sT_381), G⟩, (cA sT_388 G o2), trivial⟩ ?_
    exact wp_end (o := .inl (some (.int (mx_i h 388 i1.toNatClampNeg)))) (h' := h) (P := True) rfl rfl trivial H
  · have c1 := Int32.not_le.mp c1
    have H := H.1 c1
    refine wp_steps (i' := 23) (ls' := [some (.ref 381), some (.int i1), some (.int i2), some (.int i3), some (.int i1), w5]) (st' := []) (h' := h) (P := True) 2 rfl rfl trivial ?_
    exact H _
set_option maxRecDepth 8000 in
theorem tr_267_23 {d : Nat} {h : mxH} {Q : mxO → mxH → Prop}  {i1 : Int32} {i2 : Int32} {i3 : Int32} {i4 : Int32} (G : mxG h)  (H : ((i4 < 0 → H_267_76 (d + 2) h i1 i2 i3 0 Q) ∧ (¬ i4 < 0 → (((i4 &&& (i1 ^^^ (-1))) = 0 → (vp_in i4 1024 ∧ (∀ h4, h4 = mx_wi h 389 i4.toNatClampNeg (mx_i h 388 i4.toNatClampNeg) → H_267_42 (d + 2) h4 i1 i2 i3 i4 i4 Q))) ∧ (¬ (i4 &&& (i1 ^^^ (-1))) = 0 → H_267_23 (d + 2) h i1 i2 i3 (i4 + (-1)) Q))))) : H_267_23 (d + 2) h i1 i2 i3 i4 Q := by
  intro w5
  show mx_wp (d + 2) 267 23 [some (.ref 381), some (.int i1), some (.int i2), some (.int i3), some (.int i4), w5] [] h Q
  refine wp_steps (i' := 24) (ls' := [some (.ref 381), some (.int i1), some (.int i2), some (.int i3), some (.int i4), w5]) (st' := [.int i4]) (h' := h) (P := True) 1 rfl rfl trivial ?_
  refine wp_br (P := True) (c := i4 < 0) (t := 74) (st' := []) rfl rfl trivial (fun c1 => ?_) (fun c1 => ?_)
  · skip
    have H := H.1 c1
    refine wp_steps (i' := 76) (ls' := [some (.ref 381), some (.int i1), some (.int i2), some (.int i3), some (.int 0), w5]) (st' := []) (h' := h) (P := True) 2 rfl rfl trivial ?_
    exact H _
  · skip
    have H := H.2 c1
    refine wp_steps (i' := 30) (ls' := [some (.ref 381), some (.int i1), some (.int i2), some (.int i3), some (.int i4), w5]) (st' := [.int (i4 &&& (i1 ^^^ (-1)))]) (h' := h) (P := True) 5 rfl rfl trivial ?_
    refine wp_br (P := True) (c := (i4 &&& (i1 ^^^ (-1))) = 0) (t := 32) (st' := []) rfl rfl trivial (fun c2 => ?_) (fun c2 => ?_)
    · skip
      have H := H.1 c2
      obtain ⟨o3, H⟩ := H
      refine wp_steps (i' := 40) (ls' := [some (.ref 381), some (.int i1), some (.int i2), some (.int i3), some (.int i4), w5]) (st' := []) (h' := mx_wi h 389 i4.toNatClampNeg (mx_i h 388 i4.toNatClampNeg)) (P := ((mxT 381).1 = 11 ∧ mxG h) ∧ ((mxT 381).1 = 11 ∧ mxG h) ∧ (((mxT 388).1 = 50 ∧ mxG h) ∧ vp_in i4 (mxT 388).2) ∧ (((mxT 389).1 = 50 ∧ mxG h) ∧ vp_in i4 (mxT 389).2) ∧ True) 8 rfl rfl ⟨⟨(congrArg Prod.fst sT_381), G⟩, ⟨(congrArg Prod.fst sT_381), G⟩, (cA sT_388 G o3), (cA sT_389 G o3), trivial⟩ ?_
      obtain ⟨h4, e5⟩ : ∃ z9, z9 = mx_wi h 389 i4.toNatClampNeg (mx_i h 388 i4.toNatClampNeg) := ⟨_, rfl⟩
      rw [← e5]
      have H := H h4 e5
      have G6 : mxG h4 := e5 ▸ mxG_wi G
      refine wp_steps (i' := 42) (ls' := [some (.ref 381), some (.int i1), some (.int i2), some (.int i3), some (.int i4), some (.int i4)]) (st' := []) (h' := h4) (P := True) 2 rfl rfl trivial ?_
      exact H 
    · skip
      have H := H.2 c2
      refine wp_J (j := 72) (st' := []) rfl rfl ?_
      refine wp_steps (i' := 73) (ls' := [some (.ref 381), some (.int i1), some (.int i2), some (.int i3), some (.int (i4 + (-1))), w5]) (st' := []) (h' := h) (P := True) 1 rfl rfl trivial ?_
      refine wp_J (j := 23) (st' := []) rfl rfl ?_
      exact H _
set_option maxRecDepth 8000 in
theorem tr_267_42 {d : Nat} {h : mxH} {Q : mxO → mxH → Prop}  {i1 : Int32} {i2 : Int32} {i3 : Int32} {i4 : Int32} {i5 : Int32} (G : mxG h)  (H : ((0 < i5 → (vp_in i4 1024 ∧ (cB (mx_i h 382 4) 10 ∧ (vp_in (i4 &&& (i5 ^^^ (-1))) 1024 ∧ (∀ h5, h5 = mx_wi h 389 i4.toNatClampNeg (V_192 (mx_i h 382) (mx_i h 389 i4.toNatClampNeg) (V_193 (mx_i h 382) (V_204 (mx_i h 382) i5) (mx_i h 388 (i4 &&& (i5 ^^^ (-1))).toNatClampNeg))) → H_267_42 (d + 2) h5 i1 i2 i3 i4 ((i5 - 1) &&& i4) Q))))) ∧ (¬ 0 < i5 → H_267_23 (d + 2) h i1 i2 i3 (i4 + (-1)) Q))) : H_267_42 (d + 2) h i1 i2 i3 i4 i5 Q := by
  show mx_wp (d + 2) 267 42 [some (.ref 381), some (.int i1), some (.int i2), some (.int i3), some (.int i4), some (.int i5)] [] h Q
  refine wp_steps (i' := 43) (ls' := [some (.ref 381), some (.int i1), some (.int i2), some (.int i3), some (.int i4), some (.int i5)]) (st' := [.int i5]) (h' := h) (P := True) 1 rfl rfl trivial ?_
  refine wp_br (P := True) (c := i5 ≤ 0) (t := 72) (st' := []) rfl rfl trivial (fun c1 => ?_) (fun c1 => ?_)
  · have c1 := Int32.not_lt.mpr c1
    have H := H.2 c1
    refine wp_steps (i' := 73) (ls' := [some (.ref 381), some (.int i1), some (.int i2), some (.int i3), some (.int (i4 + (-1))), some (.int i5)]) (st' := []) (h' := h) (P := True) 1 rfl rfl trivial ?_
    refine wp_J (j := 23) (st' := []) rfl rfl ?_
    exact H _
  · have c1 := Int32.not_le.mp c1
    have H := H.1 c1
    obtain ⟨o2, H⟩ := H
    refine wp_steps (i' := 53) (ls' := [some (.ref 381), some (.int i1), some (.int i2), some (.int i3), some (.int i4), some (.int i5)]) (st' := [.int i5, .ref 381, .int (mx_i h 389 i4.toNatClampNeg), .int i4, .ref 389]) (h' := h) (P := ((mxT 381).1 = 11 ∧ mxG h) ∧ ((mxT 381).1 = 11 ∧ mxG h) ∧ (((mxT 389).1 = 50 ∧ mxG h) ∧ vp_in i4 (mxT 389).2) ∧ True) 9 rfl rfl ⟨⟨(congrArg Prod.fst sT_381), G⟩, ⟨(congrArg Prod.fst sT_381), G⟩, (cA sT_389 G o2), trivial⟩ ?_
    obtain ⟨o3, H⟩ := H
    refine wp_call (b := false) (y' := 204) (as := [.ref 381, .int i5]) (rest := [.int (mx_i h 389 i4.toNatClampNeg), .int i4, .ref 389]) (P := ((mxT 381).1 = mxRc 204 ∧ mxG h)) rfl (by with_unfolding_all rfl) ⟨(congrArg Prod.fst sT_381), G⟩ (Nat.le_of_ble_eq_true rfl) (sp_204 G o3 ?_)
    show mx_wp (d + 2) 267 54 [some (.ref 381), some (.int i1), some (.int i2), some (.int i3), some (.int i4), some (.int i5)] [.int (V_204 (mx_i h 382) i5), .int (mx_i h 389 i4.toNatClampNeg), .int i4, .ref 389] h Q
    obtain ⟨o4, H⟩ := H
    refine wp_steps (i' := 62) (ls' := [some (.ref 381), some (.int i1), some (.int i2), some (.int i3), some (.int i4), some (.int i5)]) (st' := [.int (mx_i h 388 (i4 &&& (i5 ^^^ (-1))).toNatClampNeg), .int (V_204 (mx_i h 382) i5), .int (mx_i h 389 i4.toNatClampNeg), .int i4, .ref 389]) (h' := h) (P := ((mxT 381).1 = 11 ∧ mxG h) ∧ (((mxT 388).1 = 50 ∧ mxG h) ∧ vp_in (i4 &&& (i5 ^^^ (-1))) (mxT 388).2) ∧ True) 8 rfl rfl ⟨⟨(congrArg Prod.fst sT_381), G⟩, (cA sT_388 G o4), trivial⟩ ?_
    refine wp_call (b := false) (y' := 193) (as := [.int (V_204 (mx_i h 382) i5), .int (mx_i h 388 (i4 &&& (i5 ^^^ (-1))).toNatClampNeg)]) (rest := [.int (mx_i h 389 i4.toNatClampNeg), .int i4, .ref 389]) (P := True) rfl (by with_unfolding_all rfl) trivial (Nat.le_of_ble_eq_true rfl) (sp_193 G ?_)
    show mx_wp (d + 2) 267 63 [some (.ref 381), some (.int i1), some (.int i2), some (.int i3), some (.int i4), some (.int i5)] [.int (V_193 (mx_i h 382) (V_204 (mx_i h 382) i5) (mx_i h 388 (i4 &&& (i5 ^^^ (-1))).toNatClampNeg)), .int (mx_i h 389 i4.toNatClampNeg), .int i4, .ref 389] h Q
    refine wp_call (b := false) (y' := 192) (as := [.int (mx_i h 389 i4.toNatClampNeg), .int (V_193 (mx_i h 382) (V_204 (mx_i h 382) i5) (mx_i h 388 (i4 &&& (i5 ^^^ (-1))).toNatClampNeg))]) (rest := [.int i4, .ref 389]) (P := True) rfl (by with_unfolding_all rfl) trivial (Nat.le_of_ble_eq_true rfl) (sp_192 G ?_)
    show mx_wp (d + 2) 267 64 [some (.ref 381), some (.int i1), some (.int i2), some (.int i3), some (.int i4), some (.int i5)] [.int (V_192 (mx_i h 382) (mx_i h 389 i4.toNatClampNeg) (V_193 (mx_i h 382) (V_204 (mx_i h 382) i5) (mx_i h 388 (i4 &&& (i5 ^^^ (-1))).toNatClampNeg))), .int i4, .ref 389] h Q
    refine wp_steps (i' := 65) (ls' := [some (.ref 381), some (.int i1), some (.int i2), some (.int i3), some (.int i4), some (.int i5)]) (st' := []) (h' := mx_wi h 389 i4.toNatClampNeg (V_192 (mx_i h 382) (mx_i h 389 i4.toNatClampNeg) (V_193 (mx_i h 382) (V_204 (mx_i h 382) i5) (mx_i h 388 (i4 &&& (i5 ^^^ (-1))).toNatClampNeg)))) (P := (((mxT 389).1 = 50 ∧ mxG h) ∧ vp_in i4 (mxT 389).2) ∧ True) 1 rfl rfl ⟨(cA sT_389 G o2), trivial⟩ ?_
    obtain ⟨h5, e6⟩ : ∃ z9, z9 = mx_wi h 389 i4.toNatClampNeg (V_192 (mx_i h 382) (mx_i h 389 i4.toNatClampNeg) (V_193 (mx_i h 382) (V_204 (mx_i h 382) i5) (mx_i h 388 (i4 &&& (i5 ^^^ (-1))).toNatClampNeg))) := ⟨_, rfl⟩
    rw [← e6]
    have H := H h5 e6
    have G7 : mxG h5 := e6 ▸ mxG_wi G
    refine wp_steps (i' := 71) (ls' := [some (.ref 381), some (.int i1), some (.int i2), some (.int i3), some (.int i4), some (.int ((i5 - 1) &&& i4))]) (st' := []) (h' := h5) (P := True) 6 rfl rfl trivial ?_
    refine wp_J (j := 42) (st' := []) rfl rfl ?_
    exact H 
set_option maxRecDepth 8000 in
theorem tr_267_76 {d : Nat} {h : mxH} {Q : mxO → mxH → Prop}  {i1 : Int32} {i2 : Int32} {i3 : Int32} {i4 : Int32} (G : mxG h)  (H : ((i1 < i4 → H_267_18 (d + 2) h i1 i2 (i3 + 1) Q) ∧ (¬ i1 < i4 → ((((i4 &&& (i1 ^^^ (-1))) = 0 → (vp_in i4 1024 ∧ True)) ∧ (¬ (i4 &&& (i1 ^^^ (-1))) = 0 → (vp_in i4 1024 ∧ True))) ∧ (∀ (v2 : Int32), v2 = ((if (i4 &&& (i1 ^^^ (-1))) = 0 then (mx_i h 389 i4.toNatClampNeg) else (mx_i h 388 i4.toNatClampNeg)) : Int32) → (vp_in i4 1024 ∧ (∀ h4, h4 = mx_wi h 388 i4.toNatClampNeg v2 → H_267_76 (d + 2) h4 i1 i2 i3 (i4 + 1) Q))))))) : H_267_76 (d + 2) h i1 i2 i3 i4 Q := by
  intro w5
  show mx_wp (d + 2) 267 76 [some (.ref 381), some (.int i1), some (.int i2), some (.int i3), some (.int i4), w5] [] h Q
  refine wp_steps (i' := 78) (ls' := [some (.ref 381), some (.int i1), some (.int i2), some (.int i3), some (.int i4), w5]) (st' := [.int i1, .int i4]) (h' := h) (P := True) 2 rfl rfl trivial ?_
  refine wp_br (P := True) (c := i1 < i4) (t := 100) (st' := []) rfl rfl trivial (fun c1 => ?_) (fun c1 => ?_)
  · skip
    have H := H.1 c1
    refine wp_steps (i' := 101) (ls' := [some (.ref 381), some (.int i1), some (.int i2), some (.int (i3 + 1)), some (.int i4), w5]) (st' := []) (h' := h) (P := True) 1 rfl rfl trivial ?_
    refine wp_J (j := 18) (st' := []) rfl rfl ?_
    exact H _ _
  · skip
    have H := H.2 c1
    refine wp_steps (i' := 87) (ls' := [some (.ref 381), some (.int i1), some (.int i2), some (.int i3), some (.int i4), w5]) (st' := [.int (i4 &&& (i1 ^^^ (-1))), .int i4, .ref 388]) (h' := h) (P := ((mxT 381).1 = 11 ∧ mxG h) ∧ True) 8 rfl rfl ⟨⟨(congrArg Prod.fst sT_381), G⟩, trivial⟩ ?_
    have J : ∀ (v2 : Int32) (ev2 : v2 = ((if (i4 &&& (i1 ^^^ (-1))) = 0 then (mx_i h 389 i4.toNatClampNeg) else (mx_i h 388 i4.toNatClampNeg)) : Int32)), mx_wp (d + 2) 267 97 [some (.ref 381), some (.int i1), some (.int i2), some (.int i3), some (.int i4), w5] [.int v2, .int i4, .ref 388] h Q := by
      intro v2 ev2
      have H := H.2 v2 ev2
      obtain ⟨o3, H⟩ := H
      refine wp_steps (i' := 98) (ls' := [some (.ref 381), some (.int i1), some (.int i2), some (.int i3), some (.int i4), w5]) (st' := []) (h' := mx_wi h 388 i4.toNatClampNeg v2) (P := (((mxT 388).1 = 50 ∧ mxG h) ∧ vp_in i4 (mxT 388).2) ∧ True) 1 rfl rfl ⟨(cA sT_388 G o3), trivial⟩ ?_
      obtain ⟨h4, e5⟩ : ∃ z9, z9 = mx_wi h 388 i4.toNatClampNeg v2 := ⟨_, rfl⟩
      rw [← e5]
      have H := H h4 e5
      have G6 : mxG h4 := e5 ▸ mxG_wi G
      refine wp_steps (i' := 99) (ls' := [some (.ref 381), some (.int i1), some (.int i2), some (.int i3), some (.int (i4 + 1)), w5]) (st' := []) (h' := h4) (P := True) 1 rfl rfl trivial ?_
      refine wp_J (j := 76) (st' := []) rfl rfl ?_
      exact H _
    have H := H.1
    refine wp_br (P := True) (c := ¬ (i4 &&& (i1 ^^^ (-1))) = 0) (t := 93) (st' := [.int i4, .ref 388]) rfl rfl trivial (fun c7 => ?_) (fun c7 => ?_)
    · skip
      have H := H.2 c7
      obtain ⟨o8, H⟩ := H
      refine wp_steps (i' := 97) (ls' := [some (.ref 381), some (.int i1), some (.int i2), some (.int i3), some (.int i4), w5]) (st' := [.int (mx_i h 388 i4.toNatClampNeg), .int i4, .ref 388]) (h' := h) (P := ((mxT 381).1 = 11 ∧ mxG h) ∧ (((mxT 388).1 = 50 ∧ mxG h) ∧ vp_in i4 (mxT 388).2) ∧ True) 4 rfl rfl ⟨⟨(congrArg Prod.fst sT_381), G⟩, (cA sT_388 G o8), trivial⟩ ?_
      exact J _ (by rw [if_neg c7])
    · have c7 := Decidable.of_not_not c7
      have H := H.1 c7
      obtain ⟨o9, H⟩ := H
      refine wp_steps (i' := 92) (ls' := [some (.ref 381), some (.int i1), some (.int i2), some (.int i3), some (.int i4), w5]) (st' := [.int (mx_i h 389 i4.toNatClampNeg), .int i4, .ref 388]) (h' := h) (P := ((mxT 381).1 = 11 ∧ mxG h) ∧ (((mxT 389).1 = 50 ∧ mxG h) ∧ vp_in i4 (mxT 389).2) ∧ True) 4 rfl rfl ⟨⟨(congrArg Prod.fst sT_381), G⟩, (cA sT_389 G o9), trivial⟩ ?_
      refine wp_J (j := 97) (st' := [.int (mx_i h 389 i4.toNatClampNeg), .int i4, .ref 388]) rfl rfl ?_
      exact J _ (by rw [if_pos c7])
def F_267_2 (i1 : Int32) (i2 : Int32) (z : Nat) (s : mxH) : mxH := (mx_wi s 388 (nI z).toNatClampNeg ((if (nI z) = 0 then 0 else 2000000000) : Int32))
theorem K_267_2 {i1 : Int32} {i2 : Int32} (z : Nat) (s : mxH) : mxK s ((F_267_2 i1 i2) z s) := by
  unfold F_267_2
  (try simp only []); repeat' (first | with_reducible exact mxK_rfl | with_reducible exact mxK_wi | with_reducible exact mxK_wrow | with_reducible refine mxK_ite ?_ ?_ | with_reducible refine mxK_tr ?_ mxK_wi | with_reducible refine mxK_tr ?_ mxK_wrow)
theorem lp_267_2 {d : Nat} {Q : mxO → mxH → Prop} {i1 : Int32} {i2 : Int32} {s0 : mxH} {n : Nat} (z0 : Nat) (G : mxG s0)  (hB : ∀ z, z0 ≤ z → z ≤ n → (1024 : Int32) = nI n) (hn : n < 2147483648) (hz : z0 ≤ n) (ob : ∀ z, z0 ≤ z → z < n → (vp_in (nI z) 1024 ∧ True)) (k : H_267_18 (d + 2) (fz (F_267_2 i1 i2) z0 n s0) i1 i2 0 Q) : H_267_2 (d + 2) s0 i1 i2 (nI z0) Q := by
  have L : ∀ (j z : Nat), z0 ≤ z → z + j = n → H_267_2 (d + 2) (fz (F_267_2 i1 i2) z0 z s0) i1 i2 (nI z) Q := by
    intro j
    induction j with
    | zero =>
      intro z hz0 hzn
      have hzn : z = n := by omega
      subst hzn
      have Gz : mxG (fz (F_267_2 i1 i2) z0 z s0) := mxK_G (mxK_fz (g := fun s => s) (fun z s => K_267_2 z s) z0 z s0) G
      have hBz := hB z hz0 (by omega)
      refine tr_267_2 Gz  ⟨fun c9 => absurd (hBz ▸ c9) Int32.lt_irrefl, fun c9 => k⟩
    | succ j ih =>
      intro z hz0 hzn
      have hih := ih (z + 1) (by omega) (by omega)
      rw [nI_succ, fz_s hz0] at hih
      have Gz : mxG (fz (F_267_2 i1 i2) z0 z s0) := mxK_G (mxK_fz (g := fun s => s) (fun z s => K_267_2 z s) z0 z s0) G
      have hBz := hB z hz0 (by omega)
      have hob := ob z hz0 (by omega)
      refine tr_267_2 Gz  ⟨fun c9 => ?_, fun c9 => absurd (hBz.symm ▸ nI_lt (by omega) hn) c9⟩
      intro v2 ev2
      subst ev2
      obtain ⟨q0, hob⟩ := hob
      refine ⟨q0, ?_⟩
      intro h4 eh4
      subst eh4
      exact hih
  have L0 := L (n - z0) z0 (Nat.le_refl _) (by omega)
  simp only [fz_0] at L0
  exact L0
def F_267_76 (i1 : Int32) (i2 : Int32) (i3 : Int32) (z : Nat) (s : mxH) : mxH := (mx_wi s 388 (nI z).toNatClampNeg ((if ((nI z) &&& (i1 ^^^ (-1))) = 0 then (mx_i s 389 (nI z).toNatClampNeg) else (mx_i s 388 (nI z).toNatClampNeg)) : Int32))
theorem K_267_76 {i1 : Int32} {i2 : Int32} {i3 : Int32} (z : Nat) (s : mxH) : mxK s ((F_267_76 i1 i2 i3) z s) := by
  unfold F_267_76
  (try simp only []); repeat' (first | with_reducible exact mxK_rfl | with_reducible exact mxK_wi | with_reducible exact mxK_wrow | with_reducible refine mxK_ite ?_ ?_ | with_reducible refine mxK_tr ?_ mxK_wi | with_reducible refine mxK_tr ?_ mxK_wrow)
theorem lp_267_76 {d : Nat} {Q : mxO → mxH → Prop} {i1 : Int32} {i2 : Int32} {i3 : Int32} {s0 : mxH} {n : Nat} (z0 : Nat) (G : mxG s0)  (hB : ∀ z, z0 ≤ z → z ≤ n → i1 = nI (n - 1)) (hn1 : 1 ≤ n) (hn : n < 2147483648) (hz : z0 ≤ n) (ob : ∀ z, z0 ≤ z → z < n → (((((nI z) &&& (i1 ^^^ (-1))) = 0 → (vp_in (nI z) 1024 ∧ True)) ∧ (¬ ((nI z) &&& (i1 ^^^ (-1))) = 0 → (vp_in (nI z) 1024 ∧ True))) ∧ (vp_in (nI z) 1024 ∧ True))) (k : H_267_18 (d + 2) (fz (F_267_76 i1 i2 i3) z0 n s0) i1 i2 (i3 + 1) Q) : H_267_76 (d + 2) s0 i1 i2 i3 (nI z0) Q := by
  have L : ∀ (j z : Nat), z0 ≤ z → z + j = n → H_267_76 (d + 2) (fz (F_267_76 i1 i2 i3) z0 z s0) i1 i2 i3 (nI z) Q := by
    intro j
    induction j with
    | zero =>
      intro z hz0 hzn
      have hzn : z = n := by omega
      subst hzn
      have Gz : mxG (fz (F_267_76 i1 i2 i3) z0 z s0) := mxK_G (mxK_fz (g := fun s => s) (fun z s => K_267_76 z s) z0 z s0) G
      have hBz := hB z hz0 (by omega)
      refine tr_267_76 Gz  ⟨fun c9 => k, fun c9 => absurd (hBz.symm ▸ nI_lt (by omega) hn) c9⟩
    | succ j ih =>
      intro z hz0 hzn
      have hih := ih (z + 1) (by omega) (by omega)
      rw [nI_succ, fz_s hz0] at hih
      have Gz : mxG (fz (F_267_76 i1 i2 i3) z0 z s0) := mxK_G (mxK_fz (g := fun s => s) (fun z s => K_267_76 z s) z0 z s0) G
      have hBz := hB z hz0 (by omega)
      have hob := ob z hz0 (by omega)
      refine tr_267_76 Gz  ⟨fun c9 => absurd (hBz ▸ c9) (nI_nlt (by omega) (by omega)), fun c9 => ?_⟩
      obtain ⟨q0, hob⟩ := hob
      refine ⟨q0, ?_⟩
      intro v2 ev2
      subst ev2
      obtain ⟨q0, hob⟩ := hob
      refine ⟨q0, ?_⟩
      intro h4 eh4
      subst eh4
      exact hih
  have L0 := L (n - z0) z0 (Nat.le_refl _) (by omega)
  simp only [fz_0] at L0
  exact L0
/-! 268: StoneBacksModel.canGive(II)Z -/
def H_268_2 (d : Nat) (h : mxH) (i1 : Int32) (i2 : Int32) (i3 : Int32) (Q : mxO → mxH → Prop) : Prop := ∀ (w4 : Option Value) (w5 : Option Value), mx_wp d 268 2 [some (.ref 381), some (.int i1), some (.int i2), some (.int i3), w4, w5] [] h Q
def H_268_18 (d : Nat) (h : mxH) (i1 : Int32) (i2 : Int32) (i3 : Int32) (Q : mxO → mxH → Prop) : Prop := ∀ (w4 : Option Value) (w5 : Option Value), mx_wp d 268 18 [some (.ref 381), some (.int i1), some (.int i2), some (.int i3), w4, w5] [] h Q
def H_268_23 (d : Nat) (h : mxH) (i1 : Int32) (i2 : Int32) (i3 : Int32) (i4 : Int32) (Q : mxO → mxH → Prop) : Prop := ∀ (w5 : Option Value), mx_wp d 268 23 [some (.ref 381), some (.int i1), some (.int i2), some (.int i3), some (.int i4), w5] [] h Q
def H_268_40 (d : Nat) (h : mxH) (i1 : Int32) (i2 : Int32) (i3 : Int32) (i4 : Int32) (i5 : Int32) (Q : mxO → mxH → Prop) : Prop := mx_wp d 268 40 [some (.ref 381), some (.int i1), some (.int i2), some (.int i3), some (.int i4), some (.int i5)] [] h Q
set_option maxRecDepth 8000 in
theorem tr_268_0 {d : Nat} {h : mxH} {Q : mxO → mxH → Prop} {i1 : Int32} {i2 : Int32} (G : mxG h)  (H : H_268_2 (d + 2) h i1 i2 0 Q) : mx_wp (d + 2) 268 0 (mx_fr 268 [.ref 381, .int i1, .int i2]) [] h Q := by
  show mx_wp (d + 2) 268 0 [some (.ref 381), some (.int i1), some (.int i2), none, none, none] [] h Q
  refine wp_steps (i' := 2) (ls' := [some (.ref 381), some (.int i1), some (.int i2), some (.int 0), none, none]) (st' := []) (h' := h) (P := True) 2 rfl rfl trivial ?_
  exact H _ _
set_option maxRecDepth 8000 in
theorem tr_268_2 {d : Nat} {h : mxH} {Q : mxO → mxH → Prop}  {i1 : Int32} {i2 : Int32} {i3 : Int32} (G : mxG h)  (H : ((i3 < 1024 → (∀ (v2 : Int32), v2 = ((if i3 = 0 then 1 else 0) : Int32) → (vp_in i3 1024 ∧ (∀ h4, h4 = mx_wi h 388 i3.toNatClampNeg v2 → H_268_2 (d + 2) h4 i1 i2 (i3 + 1) Q)))) ∧ (¬ i3 < 1024 → H_268_18 (d + 2) h i1 i2 0 Q))) : H_268_2 (d + 2) h i1 i2 i3 Q := by
  intro w4 w5
  show mx_wp (d + 2) 268 2 [some (.ref 381), some (.int i1), some (.int i2), some (.int i3), w4, w5] [] h Q
  refine wp_steps (i' := 4) (ls' := [some (.ref 381), some (.int i1), some (.int i2), some (.int i3), w4, w5]) (st' := [.int 1024, .int i3]) (h' := h) (P := True) 2 rfl rfl trivial ?_
  refine wp_br (P := True) (c := 1024 ≤ i3) (t := 16) (st' := []) rfl rfl trivial (fun c1 => ?_) (fun c1 => ?_)
  · have c1 := Int32.not_lt.mpr c1
    have H := H.2 c1
    refine wp_steps (i' := 18) (ls' := [some (.ref 381), some (.int i1), some (.int i2), some (.int 0), w4, w5]) (st' := []) (h' := h) (P := True) 2 rfl rfl trivial ?_
    exact H _ _
  · have c1 := Int32.not_le.mp c1
    have H := H.1 c1
    refine wp_steps (i' := 9) (ls' := [some (.ref 381), some (.int i1), some (.int i2), some (.int i3), w4, w5]) (st' := [.int i3, .int i3, .ref 388]) (h' := h) (P := ((mxT 381).1 = 11 ∧ mxG h) ∧ True) 4 rfl rfl ⟨⟨(congrArg Prod.fst sT_381), G⟩, trivial⟩ ?_
    have J : ∀ (v2 : Int32) (ev2 : v2 = ((if i3 = 0 then 1 else 0) : Int32)), mx_wp (d + 2) 268 13 [some (.ref 381), some (.int i1), some (.int i2), some (.int i3), w4, w5] [.int v2, .int i3, .ref 388] h Q := by
      intro v2 ev2
      have H := H v2 ev2
      obtain ⟨o3, H⟩ := H
      refine wp_steps (i' := 14) (ls' := [some (.ref 381), some (.int i1), some (.int i2), some (.int i3), w4, w5]) (st' := []) (h' := mx_wi h 388 i3.toNatClampNeg v2) (P := (((mxT 388).1 = 50 ∧ mxG h) ∧ vp_in i3 (mxT 388).2) ∧ True) 1 rfl rfl ⟨(cA sT_388 G o3), trivial⟩ ?_
      obtain ⟨h4, e5⟩ : ∃ z9, z9 = mx_wi h 388 i3.toNatClampNeg v2 := ⟨_, rfl⟩
      rw [← e5]
      have H := H h4 e5
      have G6 : mxG h4 := e5 ▸ mxG_wi G
      refine wp_steps (i' := 15) (ls' := [some (.ref 381), some (.int i1), some (.int i2), some (.int (i3 + 1)), w4, w5]) (st' := []) (h' := h4) (P := True) 1 rfl rfl trivial ?_
      refine wp_J (j := 2) (st' := []) rfl rfl ?_
      exact H _ _
    refine wp_br (P := True) (c := ¬ i3 = 0) (t := 12) (st' := [.int i3, .ref 388]) rfl rfl trivial (fun c7 => ?_) (fun c7 => ?_)
    · skip
      refine wp_steps (i' := 13) (ls' := [some (.ref 381), some (.int i1), some (.int i2), some (.int i3), w4, w5]) (st' := [.int 0, .int i3, .ref 388]) (h' := h) (P := True) 1 rfl rfl trivial ?_
      exact J _ (by rw [if_neg c7])
    · have c7 := Decidable.of_not_not c7
      refine wp_steps (i' := 11) (ls' := [some (.ref 381), some (.int i1), some (.int i2), some (.int i3), w4, w5]) (st' := [.int 1, .int i3, .ref 388]) (h' := h) (P := True) 1 rfl rfl trivial ?_
      refine wp_J (j := 13) (st' := [.int 1, .int i3, .ref 388]) rfl rfl ?_
      exact J _ (by rw [if_pos c7])
set_option maxRecDepth 8000 in
theorem tr_268_18 {d : Nat} {h : mxH} {Q : mxO → mxH → Prop}  {i1 : Int32} {i2 : Int32} {i3 : Int32} (G : mxG h)  (H : ((i3 < i2 → H_268_23 (d + 2) h i1 i2 i3 i1 Q) ∧ (¬ i3 < i2 → (vp_in i1 1024 ∧ (∀ (v3 : Int32), v3 = ((if (mx_i h 388 i1.toNatClampNeg) = 1 then 1 else 0) : Int32) → Q (.inl (some (.int v3))) h))))) : H_268_18 (d + 2) h i1 i2 i3 Q := by
  intro w4 w5
  show mx_wp (d + 2) 268 18 [some (.ref 381), some (.int i1), some (.int i2), some (.int i3), w4, w5] [] h Q
  refine wp_steps (i' := 20) (ls' := [some (.ref 381), some (.int i1), some (.int i2), some (.int i3), w4, w5]) (st' := [.int i2, .int i3]) (h' := h) (P := True) 2 rfl rfl trivial ?_
  refine wp_br (P := True) (c := i2 ≤ i3) (t := 80) (st' := []) rfl rfl trivial (fun c1 => ?_) (fun c1 => ?_)
  · have c1 := Int32.not_lt.mpr c1
    have H := H.2 c1
    obtain ⟨o2, H⟩ := H
    refine wp_steps (i' := 85) (ls' := [some (.ref 381), some (.int i1), some (.int i2), some (.int i3), w4, w5]) (st' := [.int 1, .int (mx_i h 388 i1.toNatClampNeg)]) (h' := h) (P := ((mxT 381).1 = 11 ∧ mxG h) ∧ (((mxT 388).1 = 50 ∧ mxG h) ∧ vp_in i1 (mxT 388).2) ∧ True) 5 rfl rfl ⟨⟨(congrArg Prod.fst sT_381), G⟩, (cA sT_388 G o2), trivial⟩ ?_
    have J : ∀ (v3 : Int32) (ev3 : v3 = ((if (mx_i h 388 i1.toNatClampNeg) = 1 then 1 else 0) : Int32)), mx_wp (d + 2) 268 89 [some (.ref 381), some (.int i1), some (.int i2), some (.int i3), w4, w5] [.int v3] h Q := by
      intro v3 ev3
      have H := H v3 ev3
      exact wp_end (o := .inl (some (.int v3))) (h' := h) (P := (v3 = 0 ∨ v3 = 1)) rfl rfl (b01 ev3 (by repeat' (first | exact Or.inl rfl | exact Or.inr rfl | split))) H
    refine wp_br (P := True) (c := ¬ (mx_i h 388 i1.toNatClampNeg) = 1) (t := 88) (st' := []) rfl rfl trivial (fun c4 => ?_) (fun c4 => ?_)
    · skip
      refine wp_steps (i' := 89) (ls' := [some (.ref 381), some (.int i1), some (.int i2), some (.int i3), w4, w5]) (st' := [.int 0]) (h' := h) (P := True) 1 rfl rfl trivial ?_
      exact J _ (by rw [if_neg c4])
    · have c4 := Decidable.of_not_not c4
      refine wp_steps (i' := 87) (ls' := [some (.ref 381), some (.int i1), some (.int i2), some (.int i3), w4, w5]) (st' := [.int 1]) (h' := h) (P := True) 1 rfl rfl trivial ?_
      refine wp_J (j := 89) (st' := [.int 1]) rfl rfl ?_
      exact J _ (by rw [if_pos c4])
  · have c1 := Int32.not_le.mp c1
    have H := H.1 c1
    refine wp_steps (i' := 23) (ls' := [some (.ref 381), some (.int i1), some (.int i2), some (.int i3), some (.int i1), w5]) (st' := []) (h' := h) (P := True) 2 rfl rfl trivial ?_
    exact H _
set_option maxRecDepth 8000 in
theorem tr_268_23 {d : Nat} {h : mxH} {Q : mxO → mxH → Prop}  {i1 : Int32} {i2 : Int32} {i3 : Int32} {i4 : Int32} (G : mxG h)  (H : ((i4 < 0 → H_268_18 (d + 2) h i1 i2 (i3 + 1) Q) ∧ (¬ i4 < 0 → (((i4 &&& (i1 ^^^ (-1))) = 0 → (vp_in i4 1024 ∧ (((mx_i h 388 i4.toNatClampNeg) = 1 → H_268_23 (d + 2) h i1 i2 i3 (i4 + (-1)) Q) ∧ (¬ (mx_i h 388 i4.toNatClampNeg) = 1 → H_268_40 (d + 2) h i1 i2 i3 i4 i4 Q)))) ∧ (¬ (i4 &&& (i1 ^^^ (-1))) = 0 → H_268_23 (d + 2) h i1 i2 i3 (i4 + (-1)) Q))))) : H_268_23 (d + 2) h i1 i2 i3 i4 Q := by
  intro w5
  show mx_wp (d + 2) 268 23 [some (.ref 381), some (.int i1), some (.int i2), some (.int i3), some (.int i4), w5] [] h Q
  refine wp_steps (i' := 24) (ls' := [some (.ref 381), some (.int i1), some (.int i2), some (.int i3), some (.int i4), w5]) (st' := [.int i4]) (h' := h) (P := True) 1 rfl rfl trivial ?_
  refine wp_br (P := True) (c := i4 < 0) (t := 78) (st' := []) rfl rfl trivial (fun c1 => ?_) (fun c1 => ?_)
  · skip
    have H := H.1 c1
    refine wp_steps (i' := 79) (ls' := [some (.ref 381), some (.int i1), some (.int i2), some (.int (i3 + 1)), some (.int i4), w5]) (st' := []) (h' := h) (P := True) 1 rfl rfl trivial ?_
    refine wp_J (j := 18) (st' := []) rfl rfl ?_
    exact H _ _
  · skip
    have H := H.2 c1
    refine wp_steps (i' := 30) (ls' := [some (.ref 381), some (.int i1), some (.int i2), some (.int i3), some (.int i4), w5]) (st' := [.int (i4 &&& (i1 ^^^ (-1)))]) (h' := h) (P := True) 5 rfl rfl trivial ?_
    refine wp_br (P := True) (c := ¬ (i4 &&& (i1 ^^^ (-1))) = 0) (t := 76) (st' := []) rfl rfl trivial (fun c2 => ?_) (fun c2 => ?_)
    · skip
      have H := H.2 c2
      refine wp_steps (i' := 77) (ls' := [some (.ref 381), some (.int i1), some (.int i2), some (.int i3), some (.int (i4 + (-1))), w5]) (st' := []) (h' := h) (P := True) 1 rfl rfl trivial ?_
      refine wp_J (j := 23) (st' := []) rfl rfl ?_
      exact H _
    · have c2 := Decidable.of_not_not c2
      have H := H.1 c2
      obtain ⟨o3, H⟩ := H
      refine wp_steps (i' := 36) (ls' := [some (.ref 381), some (.int i1), some (.int i2), some (.int i3), some (.int i4), w5]) (st' := [.int 1, .int (mx_i h 388 i4.toNatClampNeg)]) (h' := h) (P := ((mxT 381).1 = 11 ∧ mxG h) ∧ (((mxT 388).1 = 50 ∧ mxG h) ∧ vp_in i4 (mxT 388).2) ∧ True) 5 rfl rfl ⟨⟨(congrArg Prod.fst sT_381), G⟩, (cA sT_388 G o3), trivial⟩ ?_
      refine wp_br (P := True) (c := ¬ (mx_i h 388 i4.toNatClampNeg) = 1) (t := 38) (st' := []) rfl rfl trivial (fun c4 => ?_) (fun c4 => ?_)
      · skip
        have H := H.2 c4
        refine wp_steps (i' := 40) (ls' := [some (.ref 381), some (.int i1), some (.int i2), some (.int i3), some (.int i4), some (.int i4)]) (st' := []) (h' := h) (P := True) 2 rfl rfl trivial ?_
        exact H 
      · have c4 := Decidable.of_not_not c4
        have H := H.1 c4
        refine wp_J (j := 76) (st' := []) rfl rfl ?_
        refine wp_steps (i' := 77) (ls' := [some (.ref 381), some (.int i1), some (.int i2), some (.int i3), some (.int (i4 + (-1))), w5]) (st' := []) (h' := h) (P := True) 1 rfl rfl trivial ?_
        refine wp_J (j := 23) (st' := []) rfl rfl ?_
        exact H _
set_option maxRecDepth 8000 in
theorem tr_268_40 {d : Nat} {h : mxH} {Q : mxO → mxH → Prop}  {i1 : Int32} {i2 : Int32} {i3 : Int32} {i4 : Int32} {i5 : Int32} (G : mxG h)  (H : ((0 < i5 → (vp_in i4 1024 ∧ (((mx_i h 388 i4.toNatClampNeg) = 0 → (cB (mx_i h 382 4) 10 ∧ (vp_in i3 6 ∧ ((((mx_i h 390 i3.toNatClampNeg) < (V_204 (mx_i h 382) i5) → True) ∧ (¬ (mx_i h 390 i3.toNatClampNeg) < (V_204 (mx_i h 382) i5) → (vp_in (i4 &&& (i5 ^^^ (-1))) 1024 ∧ True))) ∧ (∀ (v6 : Int32), v6 = ((if (mx_i h 390 i3.toNatClampNeg) < (V_204 (mx_i h 382) i5) then 0 else (mx_i h 388 (i4 &&& (i5 ^^^ (-1))).toNatClampNeg)) : Int32) → (∀ h7, h7 = mx_wi h 388 i4.toNatClampNeg v6 → H_268_40 (d + 2) h7 i1 i2 i3 i4 ((i5 - 1) &&& i4) Q)))))) ∧ (¬ (mx_i h 388 i4.toNatClampNeg) = 0 → H_268_23 (d + 2) h i1 i2 i3 (i4 + (-1)) Q)))) ∧ (¬ 0 < i5 → H_268_23 (d + 2) h i1 i2 i3 (i4 + (-1)) Q))) : H_268_40 (d + 2) h i1 i2 i3 i4 i5 Q := by
  show mx_wp (d + 2) 268 40 [some (.ref 381), some (.int i1), some (.int i2), some (.int i3), some (.int i4), some (.int i5)] [] h Q
  refine wp_steps (i' := 41) (ls' := [some (.ref 381), some (.int i1), some (.int i2), some (.int i3), some (.int i4), some (.int i5)]) (st' := [.int i5]) (h' := h) (P := True) 1 rfl rfl trivial ?_
  refine wp_br (P := True) (c := i5 ≤ 0) (t := 76) (st' := []) rfl rfl trivial (fun c1 => ?_) (fun c1 => ?_)
  · have c1 := Int32.not_lt.mpr c1
    have H := H.2 c1
    refine wp_steps (i' := 77) (ls' := [some (.ref 381), some (.int i1), some (.int i2), some (.int i3), some (.int (i4 + (-1))), some (.int i5)]) (st' := []) (h' := h) (P := True) 1 rfl rfl trivial ?_
    refine wp_J (j := 23) (st' := []) rfl rfl ?_
    exact H _
  · have c1 := Int32.not_le.mp c1
    have H := H.1 c1
    obtain ⟨o2, H⟩ := H
    refine wp_steps (i' := 46) (ls' := [some (.ref 381), some (.int i1), some (.int i2), some (.int i3), some (.int i4), some (.int i5)]) (st' := [.int (mx_i h 388 i4.toNatClampNeg)]) (h' := h) (P := ((mxT 381).1 = 11 ∧ mxG h) ∧ (((mxT 388).1 = 50 ∧ mxG h) ∧ vp_in i4 (mxT 388).2) ∧ True) 4 rfl rfl ⟨⟨(congrArg Prod.fst sT_381), G⟩, (cA sT_388 G o2), trivial⟩ ?_
    refine wp_br (P := True) (c := ¬ (mx_i h 388 i4.toNatClampNeg) = 0) (t := 76) (st' := []) rfl rfl trivial (fun c3 => ?_) (fun c3 => ?_)
    · skip
      have H := H.2 c3
      refine wp_steps (i' := 77) (ls' := [some (.ref 381), some (.int i1), some (.int i2), some (.int i3), some (.int (i4 + (-1))), some (.int i5)]) (st' := []) (h' := h) (P := True) 1 rfl rfl trivial ?_
      refine wp_J (j := 23) (st' := []) rfl rfl ?_
      exact H _
    · have c3 := Decidable.of_not_not c3
      have H := H.1 c3
      refine wp_steps (i' := 52) (ls' := [some (.ref 381), some (.int i1), some (.int i2), some (.int i3), some (.int i4), some (.int i5)]) (st' := [.int i5, .ref 381, .int i4, .ref 388]) (h' := h) (P := ((mxT 381).1 = 11 ∧ mxG h) ∧ True) 5 rfl rfl ⟨⟨(congrArg Prod.fst sT_381), G⟩, trivial⟩ ?_
      obtain ⟨o4, H⟩ := H
      refine wp_call (b := false) (y' := 204) (as := [.ref 381, .int i5]) (rest := [.int i4, .ref 388]) (P := ((mxT 381).1 = mxRc 204 ∧ mxG h)) rfl (by with_unfolding_all rfl) ⟨(congrArg Prod.fst sT_381), G⟩ (Nat.le_of_ble_eq_true rfl) (sp_204 G o4 ?_)
      show mx_wp (d + 2) 268 53 [some (.ref 381), some (.int i1), some (.int i2), some (.int i3), some (.int i4), some (.int i5)] [.int (V_204 (mx_i h 382) i5), .int i4, .ref 388] h Q
      obtain ⟨o5, H⟩ := H
      refine wp_steps (i' := 57) (ls' := [some (.ref 381), some (.int i1), some (.int i2), some (.int i3), some (.int i4), some (.int i5)]) (st' := [.int (mx_i h 390 i3.toNatClampNeg), .int (V_204 (mx_i h 382) i5), .int i4, .ref 388]) (h' := h) (P := ((mxT 381).1 = 11 ∧ mxG h) ∧ (((mxT 390).1 = 50 ∧ mxG h) ∧ vp_in i3 (mxT 390).2) ∧ True) 4 rfl rfl ⟨⟨(congrArg Prod.fst sT_381), G⟩, (cA sT_390 G o5), trivial⟩ ?_
      have J : ∀ (v6 : Int32) (ev6 : v6 = ((if (mx_i h 390 i3.toNatClampNeg) < (V_204 (mx_i h 382) i5) then 0 else (mx_i h 388 (i4 &&& (i5 ^^^ (-1))).toNatClampNeg)) : Int32)), mx_wp (d + 2) 268 68 [some (.ref 381), some (.int i1), some (.int i2), some (.int i3), some (.int i4), some (.int i5)] [.int v6, .int i4, .ref 388] h Q := by
        intro v6 ev6
        have H := H.2 v6 ev6
        refine wp_steps (i' := 69) (ls' := [some (.ref 381), some (.int i1), some (.int i2), some (.int i3), some (.int i4), some (.int i5)]) (st' := []) (h' := mx_wi h 388 i4.toNatClampNeg v6) (P := (((mxT 388).1 = 50 ∧ mxG h) ∧ vp_in i4 (mxT 388).2) ∧ True) 1 rfl rfl ⟨(cA sT_388 G o2), trivial⟩ ?_
        obtain ⟨h7, e8⟩ : ∃ z9, z9 = mx_wi h 388 i4.toNatClampNeg v6 := ⟨_, rfl⟩
        rw [← e8]
        have H := H h7 e8
        have G9 : mxG h7 := e8 ▸ mxG_wi G
        refine wp_steps (i' := 75) (ls' := [some (.ref 381), some (.int i1), some (.int i2), some (.int i3), some (.int i4), some (.int ((i5 - 1) &&& i4))]) (st' := []) (h' := h7) (P := True) 6 rfl rfl trivial ?_
        refine wp_J (j := 40) (st' := []) rfl rfl ?_
        exact H 
      have H := H.1
      refine wp_br (P := True) (c := (mx_i h 390 i3.toNatClampNeg) < (V_204 (mx_i h 382) i5)) (t := 67) (st' := [.int i4, .ref 388]) rfl rfl trivial (fun c10 => ?_) (fun c10 => ?_)
      · skip
        refine wp_steps (i' := 68) (ls' := [some (.ref 381), some (.int i1), some (.int i2), some (.int i3), some (.int i4), some (.int i5)]) (st' := [.int 0, .int i4, .ref 388]) (h' := h) (P := True) 1 rfl rfl trivial ?_
        exact J _ (by rw [if_pos c10])
      · skip
        have H := H.2 c10
        obtain ⟨o11, H⟩ := H
        refine wp_steps (i' := 66) (ls' := [some (.ref 381), some (.int i1), some (.int i2), some (.int i3), some (.int i4), some (.int i5)]) (st' := [.int (mx_i h 388 (i4 &&& (i5 ^^^ (-1))).toNatClampNeg), .int i4, .ref 388]) (h' := h) (P := ((mxT 381).1 = 11 ∧ mxG h) ∧ (((mxT 388).1 = 50 ∧ mxG h) ∧ vp_in (i4 &&& (i5 ^^^ (-1))) (mxT 388).2) ∧ True) 8 rfl rfl ⟨⟨(congrArg Prod.fst sT_381), G⟩, (cA sT_388 G o11), trivial⟩ ?_
        refine wp_J (j := 68) (st' := [.int (mx_i h 388 (i4 &&& (i5 ^^^ (-1))).toNatClampNeg), .int i4, .ref 388]) rfl rfl ?_
        exact J _ (by rw [if_neg c10])
def F_268_2 (i1 : Int32) (i2 : Int32) (z : Nat) (s : mxH) : mxH := (mx_wi s 388 (nI z).toNatClampNeg ((if (nI z) = 0 then 1 else 0) : Int32))
theorem K_268_2 {i1 : Int32} {i2 : Int32} (z : Nat) (s : mxH) : mxK s ((F_268_2 i1 i2) z s) := by
  unfold F_268_2
  (try simp only []); repeat' (first | with_reducible exact mxK_rfl | with_reducible exact mxK_wi | with_reducible exact mxK_wrow | with_reducible refine mxK_ite ?_ ?_ | with_reducible refine mxK_tr ?_ mxK_wi | with_reducible refine mxK_tr ?_ mxK_wrow)
theorem lp_268_2 {d : Nat} {Q : mxO → mxH → Prop} {i1 : Int32} {i2 : Int32} {s0 : mxH} {n : Nat} (z0 : Nat) (G : mxG s0)  (hB : ∀ z, z0 ≤ z → z ≤ n → (1024 : Int32) = nI n) (hn : n < 2147483648) (hz : z0 ≤ n) (ob : ∀ z, z0 ≤ z → z < n → (vp_in (nI z) 1024 ∧ True)) (k : H_268_18 (d + 2) (fz (F_268_2 i1 i2) z0 n s0) i1 i2 0 Q) : H_268_2 (d + 2) s0 i1 i2 (nI z0) Q := by
  have L : ∀ (j z : Nat), z0 ≤ z → z + j = n → H_268_2 (d + 2) (fz (F_268_2 i1 i2) z0 z s0) i1 i2 (nI z) Q := by
    intro j
    induction j with
    | zero =>
      intro z hz0 hzn
      have hzn : z = n := by omega
      subst hzn
      have Gz : mxG (fz (F_268_2 i1 i2) z0 z s0) := mxK_G (mxK_fz (g := fun s => s) (fun z s => K_268_2 z s) z0 z s0) G
      have hBz := hB z hz0 (by omega)
      refine tr_268_2 Gz  ⟨fun c9 => absurd (hBz ▸ c9) Int32.lt_irrefl, fun c9 => k⟩
    | succ j ih =>
      intro z hz0 hzn
      have hih := ih (z + 1) (by omega) (by omega)
      rw [nI_succ, fz_s hz0] at hih
      have Gz : mxG (fz (F_268_2 i1 i2) z0 z s0) := mxK_G (mxK_fz (g := fun s => s) (fun z s => K_268_2 z s) z0 z s0) G
      have hBz := hB z hz0 (by omega)
      have hob := ob z hz0 (by omega)
      refine tr_268_2 Gz  ⟨fun c9 => ?_, fun c9 => absurd (hBz.symm ▸ nI_lt (by omega) hn) c9⟩
      intro v2 ev2
      subst ev2
      obtain ⟨q0, hob⟩ := hob
      refine ⟨q0, ?_⟩
      intro h4 eh4
      subst eh4
      exact hih
  have L0 := L (n - z0) z0 (Nat.le_refl _) (by omega)
  simp only [fz_0] at L0
  exact L0
/-! 269: StoneBacksModel.kth(II)I -/
def H_269_4 (d : Nat) (h : mxH) (i0 : Int32) (i1 : Int32) (i2 : Int32) (i3 : Int32) (Q : mxO → mxH → Prop) : Prop := mx_wp d 269 4 [some (.int i0), some (.int i1), some (.int i2), some (.int i3)] [] h Q
set_option maxRecDepth 8000 in
theorem tr_269_0 {d : Nat} {h : mxH} {Q : mxO → mxH → Prop} {i0 : Int32} {i1 : Int32} (G : mxG h)  (H : H_269_4 (d + 1) h i0 i1 0 0 Q) : mx_wp (d + 1) 269 0 (mx_fr 269 [.int i0, .int i1]) [] h Q := by
  show mx_wp (d + 1) 269 0 [some (.int i0), some (.int i1), none, none] [] h Q
  refine wp_steps (i' := 4) (ls' := [some (.int i0), some (.int i1), some (.int 0), some (.int 0)]) (st' := []) (h' := h) (P := True) 4 rfl rfl trivial ?_
  exact H 
set_option maxRecDepth 8000 in
theorem tr_269_4 {d : Nat} {h : mxH} {Q : mxO → mxH → Prop}  {i0 : Int32} {i1 : Int32} {i2 : Int32} {i3 : Int32} (G : mxG h)  (H : ((i3 < 31 → (((V_194 (mx_i h 382) i0 i3) = 0 → H_269_4 (d + 1) h i0 i1 i2 (i3 + 1) Q) ∧ (¬ (V_194 (mx_i h 382) i0 i3) = 0 → ((i2 = i1 → Q (.inl (some (.int i3))) h) ∧ (¬ i2 = i1 → H_269_4 (d + 1) h i0 i1 (i2 + 1) (i3 + 1) Q))))) ∧ (¬ i3 < 31 → Q (.inl (some (.int (-1)))) h))) : H_269_4 (d + 1) h i0 i1 i2 i3 Q := by
  show mx_wp (d + 1) 269 4 [some (.int i0), some (.int i1), some (.int i2), some (.int i3)] [] h Q
  refine wp_steps (i' := 6) (ls' := [some (.int i0), some (.int i1), some (.int i2), some (.int i3)]) (st' := [.int 31, .int i3]) (h' := h) (P := True) 2 rfl rfl trivial ?_
  refine wp_br (P := True) (c := 31 ≤ i3) (t := 20) (st' := []) rfl rfl trivial (fun c1 => ?_) (fun c1 => ?_)
  · have c1 := Int32.not_lt.mpr c1
    have H := H.2 c1
    refine wp_steps (i' := 21) (ls' := [some (.int i0), some (.int i1), some (.int i2), some (.int i3)]) (st' := [.int (-1)]) (h' := h) (P := True) 1 rfl rfl trivial ?_
    exact wp_end (o := .inl (some (.int (-1)))) (h' := h) (P := True) rfl rfl trivial H
  · have c1 := Int32.not_le.mp c1
    have H := H.1 c1
    refine wp_steps (i' := 9) (ls' := [some (.int i0), some (.int i1), some (.int i2), some (.int i3)]) (st' := [.int i3, .int i0]) (h' := h) (P := True) 2 rfl rfl trivial ?_
    refine wp_call (b := false) (y' := 194) (as := [.int i0, .int i3]) (rest := []) (P := True) rfl (by with_unfolding_all rfl) trivial (Nat.le_of_ble_eq_true rfl) (sp_194 G ?_)
    show mx_wp (d + 1) 269 10 [some (.int i0), some (.int i1), some (.int i2), some (.int i3)] [.int (V_194 (mx_i h 382) i0 i3)] h Q
    refine wp_br (P := True) (c := ¬ (V_194 (mx_i h 382) i0 i3) = 0) (t := 12) (st' := []) rfl rfl trivial (fun c2 => ?_) (fun c2 => ?_)
    · skip
      have H := H.2 c2
      refine wp_steps (i' := 14) (ls' := [some (.int i0), some (.int i1), some (.int i2), some (.int i3)]) (st' := [.int i1, .int i2]) (h' := h) (P := True) 2 rfl rfl trivial ?_
      refine wp_br (P := True) (c := ¬ i2 = i1) (t := 17) (st' := []) rfl rfl trivial (fun c3 => ?_) (fun c3 => ?_)
      · skip
        have H := H.2 c3
        refine wp_steps (i' := 19) (ls' := [some (.int i0), some (.int i1), some (.int (i2 + 1)), some (.int (i3 + 1))]) (st' := []) (h' := h) (P := True) 2 rfl rfl trivial ?_
        refine wp_J (j := 4) (st' := []) rfl rfl ?_
        exact H 
      · have c3 := Decidable.of_not_not c3
        have H := H.1 c3
        refine wp_steps (i' := 16) (ls' := [some (.int i0), some (.int i1), some (.int i2), some (.int i3)]) (st' := [.int i3]) (h' := h) (P := True) 1 rfl rfl trivial ?_
        exact wp_end (o := .inl (some (.int i3))) (h' := h) (P := True) rfl rfl trivial H
    · have c2 := Decidable.of_not_not c2
      have H := H.1 c2
      refine wp_J (j := 18) (st' := []) rfl rfl ?_
      refine wp_steps (i' := 19) (ls' := [some (.int i0), some (.int i1), some (.int i2), some (.int (i3 + 1))]) (st' := []) (h' := h) (P := True) 1 rfl rfl trivial ?_
      refine wp_J (j := 4) (st' := []) rfl rfl ?_
      exact H 
/-! 272: StoneBacksModel.goes()I -/
def H_272_10 (d : Nat) (h : mxH) (i1 : Int32) (i2 : Int32) (Q : mxO → mxH → Prop) : Prop := ∀ (w3 : Option Value) (w4 : Option Value) (w5 : Option Value) (w6 : Option Value), mx_wp d 272 10 [some (.ref 381), some (.int i1), some (.int i2), w3, w4, w5, w6] [] h Q
def H_272_23 (d : Nat) (h : mxH) (i1 : Int32) (i2 : Int32) (i3 : Int32) (i4 : Int32) (Q : mxO → mxH → Prop) : Prop := ∀ (w5 : Option Value) (w6 : Option Value), mx_wp d 272 23 [some (.ref 381), some (.int i1), some (.int i2), some (.int i3), some (.int i4), w5, w6] [] h Q
def H_272_29 (d : Nat) (h : mxH) (i1 : Int32) (i2 : Int32) (i3 : Int32) (i4 : Int32) (i5 : Int32) (i6 : Int32) (Q : mxO → mxH → Prop) : Prop := mx_wp d 272 29 [some (.ref 381), some (.int i1), some (.int i2), some (.int i3), some (.int i4), some (.int i5), some (.int i6)] [] h Q
set_option maxRecDepth 8000 in
theorem tr_272_0 {d : Nat} {h : mxH} {Q : mxO → mxH → Prop}  (G : mxG h)  (H : (∀ h1, h1 = mx_wi h 381 0 0 → H_272_10 (d + 3) h1 (mx_i h1 382 3) 0 Q)) : mx_wp (d + 3) 272 0 (mx_fr 272 [.ref 381]) [] h Q := by
  show mx_wp (d + 3) 272 0 [some (.ref 381), none, none, none, none, none, none] [] h Q
  refine wp_steps (i' := 3) (ls' := [some (.ref 381), none, none, none, none, none, none]) (st' := []) (h' := mx_wi h 381 0 0) (P := ((mxT 381).1 = 11 ∧ mxG h) ∧ True) 3 rfl rfl ⟨⟨(congrArg Prod.fst sT_381), G⟩, trivial⟩ ?_
  obtain ⟨h1, e2⟩ : ∃ z9, z9 = mx_wi h 381 0 0 := ⟨_, rfl⟩
  rw [← e2]
  have H := H h1 e2
  have G3 : mxG h1 := e2 ▸ mxG_wi G
  refine wp_steps (i' := 10) (ls' := [some (.ref 381), some (.int (mx_i h1 382 3)), some (.int 0), none, none, none, none]) (st' := []) (h' := h1) (P := ((mxT 381).1 = 11 ∧ mxG h1) ∧ (((mxT 382).1 = 50 ∧ mxG h1) ∧ vp_in 3 (mxT 382).2) ∧ True) 7 rfl rfl ⟨⟨(congrArg Prod.fst sT_381), G3⟩, (cA sT_382 G3 (vpl rfl)), trivial⟩ ?_
  exact H _ _ _ _
set_option maxRecDepth 8000 in
theorem tr_272_10 {d : Nat} {h : mxH} {Q : mxO → mxH → Prop}  {i1 : Int32} {i2 : Int32} (G : mxG h)  (H : ((i2 < ((1 : Int32) <<< (i1 &&& 31)) → (∀ (v5 : Int32), v5 = ((if i2 = 0 then 0 else 2000000000) : Int32) → H_272_23 (d + 3) h i1 i2 v5 i2 Q)) ∧ (¬ i2 < ((1 : Int32) <<< (i1 &&& 31)) → (vp_in (((1 : Int32) <<< (i1 &&& 31)) - 1) 1024 ∧ (∀ (v3 : Int32), v3 = ((if (mx_i h 388 (((1 : Int32) <<< (i1 &&& 31)) - 1).toNatClampNeg) = 2000000000 then (-1) else (mx_i h 388 (((1 : Int32) <<< (i1 &&& 31)) - 1).toNatClampNeg)) : Int32) → Q (.inl (some (.int v3))) h))))) : H_272_10 (d + 3) h i1 i2 Q := by
  intro w3 w4 w5 w6
  show mx_wp (d + 3) 272 10 [some (.ref 381), some (.int i1), some (.int i2), w3, w4, w5, w6] [] h Q
  refine wp_steps (i' := 14) (ls' := [some (.ref 381), some (.int i1), some (.int i2), w3, w4, w5, w6]) (st' := [.int ((1 : Int32) <<< (i1 &&& 31)), .int i2]) (h' := h) (P := True) 4 rfl rfl trivial ?_
  refine wp_br (P := True) (c := ((1 : Int32) <<< (i1 &&& 31)) ≤ i2) (t := 89) (st' := []) rfl rfl trivial (fun c1 => ?_) (fun c1 => ?_)
  · have c1 := Int32.not_lt.mpr c1
    have H := H.2 c1
    obtain ⟨o2, H⟩ := H
    refine wp_steps (i' := 100) (ls' := [some (.ref 381), some (.int i1), some (.int (mx_i h 388 (((1 : Int32) <<< (i1 &&& 31)) - 1).toNatClampNeg)), w3, w4, w5, w6]) (st' := [.int 2000000000, .int (mx_i h 388 (((1 : Int32) <<< (i1 &&& 31)) - 1).toNatClampNeg)]) (h' := h) (P := ((mxT 381).1 = 11 ∧ mxG h) ∧ (((mxT 388).1 = 50 ∧ mxG h) ∧ vp_in (((1 : Int32) <<< (i1 &&& 31)) - 1) (mxT 388).2) ∧ True) 11 rfl rfl ⟨⟨(congrArg Prod.fst sT_381), G⟩, (cA sT_388 G o2), trivial⟩ ?_
    have J : ∀ (v3 : Int32) (ev3 : v3 = ((if (mx_i h 388 (((1 : Int32) <<< (i1 &&& 31)) - 1).toNatClampNeg) = 2000000000 then (-1) else (mx_i h 388 (((1 : Int32) <<< (i1 &&& 31)) - 1).toNatClampNeg)) : Int32)), mx_wp (d + 3) 272 104 [some (.ref 381), some (.int i1), some (.int (mx_i h 388 (((1 : Int32) <<< (i1 &&& 31)) - 1).toNatClampNeg)), w3, w4, w5, w6] [.int v3] h Q := by
      intro v3 ev3
      have H := H v3 ev3
      exact wp_end (o := .inl (some (.int v3))) (h' := h) (P := True) rfl rfl trivial H
    refine wp_br (P := True) (c := ¬ (mx_i h 388 (((1 : Int32) <<< (i1 &&& 31)) - 1).toNatClampNeg) = 2000000000) (t := 103) (st' := []) rfl rfl trivial (fun c4 => ?_) (fun c4 => ?_)
    · skip
      refine wp_steps (i' := 104) (ls' := [some (.ref 381), some (.int i1), some (.int (mx_i h 388 (((1 : Int32) <<< (i1 &&& 31)) - 1).toNatClampNeg)), w3, w4, w5, w6]) (st' := [.int (mx_i h 388 (((1 : Int32) <<< (i1 &&& 31)) - 1).toNatClampNeg)]) (h' := h) (P := True) 1 rfl rfl trivial ?_
      exact J _ (by rw [if_neg c4])
    · have c4 := Decidable.of_not_not c4
      refine wp_steps (i' := 102) (ls' := [some (.ref 381), some (.int i1), some (.int (mx_i h 388 (((1 : Int32) <<< (i1 &&& 31)) - 1).toNatClampNeg)), w3, w4, w5, w6]) (st' := [.int (-1)]) (h' := h) (P := True) 1 rfl rfl trivial ?_
      refine wp_J (j := 104) (st' := [.int (-1)]) rfl rfl ?_
      exact J _ (by rw [if_pos c4])
  · have c1 := Int32.not_le.mp c1
    have H := H.1 c1
    refine wp_steps (i' := 16) (ls' := [some (.ref 381), some (.int i1), some (.int i2), w3, w4, w5, w6]) (st' := [.int i2]) (h' := h) (P := True) 1 rfl rfl trivial ?_
    have J : ∀ (v5 : Int32) (ev5 : v5 = ((if i2 = 0 then 0 else 2000000000) : Int32)), mx_wp (d + 3) 272 20 [some (.ref 381), some (.int i1), some (.int i2), w3, w4, w5, w6] [.int v5] h Q := by
      intro v5 ev5
      have H := H v5 ev5
      refine wp_steps (i' := 23) (ls' := [some (.ref 381), some (.int i1), some (.int i2), some (.int v5), some (.int i2), w5, w6]) (st' := []) (h' := h) (P := True) 3 rfl rfl trivial ?_
      exact H _ _
    refine wp_br (P := True) (c := ¬ i2 = 0) (t := 19) (st' := []) rfl rfl trivial (fun c6 => ?_) (fun c6 => ?_)
    · skip
      refine wp_steps (i' := 20) (ls' := [some (.ref 381), some (.int i1), some (.int i2), w3, w4, w5, w6]) (st' := [.int 2000000000]) (h' := h) (P := True) 1 rfl rfl trivial ?_
      exact J _ (by rw [if_neg c6])
    · have c6 := Decidable.of_not_not c6
      refine wp_steps (i' := 18) (ls' := [some (.ref 381), some (.int i1), some (.int i2), w3, w4, w5, w6]) (st' := [.int 0]) (h' := h) (P := True) 1 rfl rfl trivial ?_
      refine wp_J (j := 20) (st' := [.int 0]) rfl rfl ?_
      exact J _ (by rw [if_pos c6])
set_option maxRecDepth 8000 in
theorem tr_272_23 {d : Nat} {h : mxH} {Q : mxO → mxH → Prop}  {i1 : Int32} {i2 : Int32} {i3 : Int32} {i4 : Int32} (G : mxG h)  (H : ((0 < i4 → H_272_29 (d + 3) h i1 i2 i3 i4 0 0 Q) ∧ (¬ 0 < i4 → (vp_in i2 1024 ∧ (∀ h3, h3 = mx_wi h 388 i2.toNatClampNeg i3 → H_272_10 (d + 3) h3 i1 (i2 + 1) Q))))) : H_272_23 (d + 3) h i1 i2 i3 i4 Q := by
  intro w5 w6
  show mx_wp (d + 3) 272 23 [some (.ref 381), some (.int i1), some (.int i2), some (.int i3), some (.int i4), w5, w6] [] h Q
  refine wp_steps (i' := 24) (ls' := [some (.ref 381), some (.int i1), some (.int i2), some (.int i3), some (.int i4), w5, w6]) (st' := [.int i4]) (h' := h) (P := True) 1 rfl rfl trivial ?_
  refine wp_br (P := True) (c := i4 ≤ 0) (t := 82) (st' := []) rfl rfl trivial (fun c1 => ?_) (fun c1 => ?_)
  · have c1 := Int32.not_lt.mpr c1
    have H := H.2 c1
    obtain ⟨o2, H⟩ := H
    refine wp_steps (i' := 87) (ls' := [some (.ref 381), some (.int i1), some (.int i2), some (.int i3), some (.int i4), w5, w6]) (st' := []) (h' := mx_wi h 388 i2.toNatClampNeg i3) (P := ((mxT 381).1 = 11 ∧ mxG h) ∧ (((mxT 388).1 = 50 ∧ mxG h) ∧ vp_in i2 (mxT 388).2) ∧ True) 5 rfl rfl ⟨⟨(congrArg Prod.fst sT_381), G⟩, (cA sT_388 G o2), trivial⟩ ?_
    obtain ⟨h3, e4⟩ : ∃ z9, z9 = mx_wi h 388 i2.toNatClampNeg i3 := ⟨_, rfl⟩
    rw [← e4]
    have H := H h3 e4
    have G5 : mxG h3 := e4 ▸ mxG_wi G
    refine wp_steps (i' := 88) (ls' := [some (.ref 381), some (.int i1), some (.int (i2 + 1)), some (.int i3), some (.int i4), w5, w6]) (st' := []) (h' := h3) (P := True) 1 rfl rfl trivial ?_
    refine wp_J (j := 10) (st' := []) rfl rfl ?_
    exact H _ _ _ _
  · have c1 := Int32.not_le.mp c1
    have H := H.1 c1
    refine wp_steps (i' := 29) (ls' := [some (.ref 381), some (.int i1), some (.int i2), some (.int i3), some (.int i4), some (.int 0), some (.int 0)]) (st' := []) (h' := h) (P := True) 4 rfl rfl trivial ?_
    exact H 
set_option maxRecDepth 8000 in
theorem tr_272_29 {d : Nat} {h : mxH} {Q : mxO → mxH → Prop}  {i1 : Int32} {i2 : Int32} {i3 : Int32} {i4 : Int32} {i5 : Int32} {i6 : Int32} (G : mxG h)  (H : ((i6 < i1 → ((((V_194 (mx_i h 382) i4 i6) = 0 → True) ∧ (¬ (V_194 (mx_i h 382) i4 i6) = 0 → (cB (mx_i h 382 4) 10 ∧ True))) ∧ (∀ (v6 : Int32), v6 = ((if (V_194 (mx_i h 382) i4 i6) = 0 then 0 else (V_205 (mx_i h 382) i6)) : Int32) → H_272_29 (d + 3) h i1 i2 i3 i4 (i5 + v6) (i6 + 1) Q))) ∧ (¬ i6 < i1 → ((((mx_i h 382 6) < i5 → True) ∧ (¬ (mx_i h 382 6) < i5 → (vp_in (i2 &&& (i4 ^^^ (-1))) 1024 ∧ True))) ∧ (∀ (v2 : Int32), v2 = ((if (mx_i h 382 6) < i5 then i3 else (if (mx_i h 388 (i2 &&& (i4 ^^^ (-1))).toNatClampNeg) = 2000000000 then i3 else (V_192 (mx_i h 382) i3 (1 + (mx_i h 388 (i2 &&& (i4 ^^^ (-1))).toNatClampNeg))))) : Int32) → H_272_23 (d + 3) h i1 i2 v2 ((i4 - 1) &&& i2) Q))))) : H_272_29 (d + 3) h i1 i2 i3 i4 i5 i6 Q := by
  show mx_wp (d + 3) 272 29 [some (.ref 381), some (.int i1), some (.int i2), some (.int i3), some (.int i4), some (.int i5), some (.int i6)] [] h Q
  refine wp_steps (i' := 31) (ls' := [some (.ref 381), some (.int i1), some (.int i2), some (.int i3), some (.int i4), some (.int i5), some (.int i6)]) (st' := [.int i1, .int i6]) (h' := h) (P := True) 2 rfl rfl trivial ?_
  refine wp_br (P := True) (c := i1 ≤ i6) (t := 46) (st' := []) rfl rfl trivial (fun c1 => ?_) (fun c1 => ?_)
  · have c1 := Int32.not_lt.mpr c1
    have H := H.2 c1
    refine wp_steps (i' := 51) (ls' := [some (.ref 381), some (.int i1), some (.int i2), some (.int i3), some (.int i4), some (.int i5), some (.int i6)]) (st' := [.int (mx_i h 382 6), .int i5]) (h' := h) (P := ((mxT 381).1 = 11 ∧ mxG h) ∧ (((mxT 382).1 = 50 ∧ mxG h) ∧ vp_in 6 (mxT 382).2) ∧ True) 5 rfl rfl ⟨⟨(congrArg Prod.fst sT_381), G⟩, (cA sT_382 G (vpl rfl)), trivial⟩ ?_
    have J : ∀ (v2 : Int32) (ev2 : v2 = ((if (mx_i h 382 6) < i5 then i3 else (if (mx_i h 388 (i2 &&& (i4 ^^^ (-1))).toNatClampNeg) = 2000000000 then i3 else (V_192 (mx_i h 382) i3 (1 + (mx_i h 388 (i2 &&& (i4 ^^^ (-1))).toNatClampNeg))))) : Int32)), mx_wp (d + 3) 272 75 [some (.ref 381), some (.int i1), some (.int i2), some (.int v2), some (.int i4), some (.int i5), some (.int i6)] [] h Q := by
      intro v2 ev2
      have H := H.2 v2 ev2
      refine wp_steps (i' := 81) (ls' := [some (.ref 381), some (.int i1), some (.int i2), some (.int v2), some (.int ((i4 - 1) &&& i2)), some (.int i5), some (.int i6)]) (st' := []) (h' := h) (P := True) 6 rfl rfl trivial ?_
      refine wp_J (j := 23) (st' := []) rfl rfl ?_
      exact H _ _
    have H := H.1
    refine wp_br (P := True) (c := (mx_i h 382 6) < i5) (t := 75) (st' := []) rfl rfl trivial (fun c3 => ?_) (fun c3 => ?_)
    · skip
      exact J _ (by rw [if_pos c3])
    · skip
      have H := H.2 c3
      obtain ⟨o4, H⟩ := H
      refine wp_steps (i' := 61) (ls' := [some (.ref 381), some (.int i1), some (.int i2), some (.int i3), some (.int i4), some (.int i5), some (.int i6)]) (st' := [.int 2000000000, .int (mx_i h 388 (i2 &&& (i4 ^^^ (-1))).toNatClampNeg)]) (h' := h) (P := ((mxT 381).1 = 11 ∧ mxG h) ∧ (((mxT 388).1 = 50 ∧ mxG h) ∧ vp_in (i2 &&& (i4 ^^^ (-1))) (mxT 388).2) ∧ True) 9 rfl rfl ⟨⟨(congrArg Prod.fst sT_381), G⟩, (cA sT_388 G o4), trivial⟩ ?_
      refine wp_br (P := True) (c := (mx_i h 388 (i2 &&& (i4 ^^^ (-1))).toNatClampNeg) = 2000000000) (t := 75) (st' := []) rfl rfl trivial (fun c5 => ?_) (fun c5 => ?_)
      · skip
        exact J _ (by rw [if_neg c3, if_pos c5])
      · skip
        refine wp_steps (i' := 73) (ls' := [some (.ref 381), some (.int i1), some (.int i2), some (.int i3), some (.int i4), some (.int i5), some (.int i6)]) (st' := [.int (1 + (mx_i h 388 (i2 &&& (i4 ^^^ (-1))).toNatClampNeg)), .int i3]) (h' := h) (P := ((mxT 381).1 = 11 ∧ mxG h) ∧ (((mxT 388).1 = 50 ∧ mxG h) ∧ vp_in (i2 &&& (i4 ^^^ (-1))) (mxT 388).2) ∧ True) 11 rfl rfl ⟨⟨(congrArg Prod.fst sT_381), G⟩, (cA sT_388 G o4), trivial⟩ ?_
        refine wp_call (b := false) (y' := 192) (as := [.int i3, .int (1 + (mx_i h 388 (i2 &&& (i4 ^^^ (-1))).toNatClampNeg))]) (rest := []) (P := True) rfl (by with_unfolding_all rfl) trivial (Nat.le_of_ble_eq_true rfl) (sp_192 G ?_)
        show mx_wp (d + 3) 272 74 [some (.ref 381), some (.int i1), some (.int i2), some (.int i3), some (.int i4), some (.int i5), some (.int i6)] [.int (V_192 (mx_i h 382) i3 (1 + (mx_i h 388 (i2 &&& (i4 ^^^ (-1))).toNatClampNeg)))] h Q
        refine wp_steps (i' := 75) (ls' := [some (.ref 381), some (.int i1), some (.int i2), some (.int (V_192 (mx_i h 382) i3 (1 + (mx_i h 388 (i2 &&& (i4 ^^^ (-1))).toNatClampNeg)))), some (.int i4), some (.int i5), some (.int i6)]) (st' := []) (h' := h) (P := True) 1 rfl rfl trivial ?_
        exact J _ (by rw [if_neg c3, if_neg c5])
  · have c1 := Int32.not_le.mp c1
    have H := H.1 c1
    refine wp_steps (i' := 35) (ls' := [some (.ref 381), some (.int i1), some (.int i2), some (.int i3), some (.int i4), some (.int i5), some (.int i6)]) (st' := [.int i6, .int i4, .int i5]) (h' := h) (P := True) 3 rfl rfl trivial ?_
    refine wp_call (b := false) (y' := 194) (as := [.int i4, .int i6]) (rest := [.int i5]) (P := True) rfl (by with_unfolding_all rfl) trivial (Nat.le_of_ble_eq_true rfl) (sp_194 G ?_)
    show mx_wp (d + 3) 272 36 [some (.ref 381), some (.int i1), some (.int i2), some (.int i3), some (.int i4), some (.int i5), some (.int i6)] [.int (V_194 (mx_i h 382) i4 i6), .int i5] h Q
    have J : ∀ (v6 : Int32) (ev6 : v6 = ((if (V_194 (mx_i h 382) i4 i6) = 0 then 0 else (V_205 (mx_i h 382) i6)) : Int32)), mx_wp (d + 3) 272 42 [some (.ref 381), some (.int i1), some (.int i2), some (.int i3), some (.int i4), some (.int i5), some (.int i6)] [.int v6, .int i5] h Q := by
      intro v6 ev6
      have H := H.2 v6 ev6
      refine wp_steps (i' := 45) (ls' := [some (.ref 381), some (.int i1), some (.int i2), some (.int i3), some (.int i4), some (.int (i5 + v6)), some (.int (i6 + 1))]) (st' := []) (h' := h) (P := True) 3 rfl rfl trivial ?_
      refine wp_J (j := 29) (st' := []) rfl rfl ?_
      exact H 
    have H := H.1
    refine wp_br (P := True) (c := (V_194 (mx_i h 382) i4 i6) = 0) (t := 41) (st' := [.int i5]) rfl rfl trivial (fun c7 => ?_) (fun c7 => ?_)
    · skip
      refine wp_steps (i' := 42) (ls' := [some (.ref 381), some (.int i1), some (.int i2), some (.int i3), some (.int i4), some (.int i5), some (.int i6)]) (st' := [.int 0, .int i5]) (h' := h) (P := True) 1 rfl rfl trivial ?_
      exact J _ (by rw [if_pos c7])
    · skip
      have H := H.2 c7
      refine wp_steps (i' := 39) (ls' := [some (.ref 381), some (.int i1), some (.int i2), some (.int i3), some (.int i4), some (.int i5), some (.int i6)]) (st' := [.int i6, .ref 381, .int i5]) (h' := h) (P := True) 2 rfl rfl trivial ?_
      obtain ⟨o8, H⟩ := H
      refine wp_call (b := false) (y' := 205) (as := [.ref 381, .int i6]) (rest := [.int i5]) (P := ((mxT 381).1 = mxRc 205 ∧ mxG h)) rfl (by with_unfolding_all rfl) ⟨(congrArg Prod.fst sT_381), G⟩ (Nat.le_of_ble_eq_true rfl) (sp_205 G o8 ?_)
      show mx_wp (d + 3) 272 40 [some (.ref 381), some (.int i1), some (.int i2), some (.int i3), some (.int i4), some (.int i5), some (.int i6)] [.int (V_205 (mx_i h 382) i6), .int i5] h Q
      refine wp_J (j := 42) (st' := [.int (V_205 (mx_i h 382) i6), .int i5]) rfl rfl ?_
      exact J _ (by rw [if_neg c7])
def F_272_29 (r : Nat → Int32) (i1 : Int32) (i2 : Int32) (i3 : Int32) (i4 : Int32) (z : Nat) (s : Int32) : Int32 := (s + ((if (V_194 (r) i4 (nI z)) = 0 then 0 else (V_205 (r) (nI z))) : Int32))
theorem lp_272_29 {d : Nat} {h : mxH} {Q : mxO → mxH → Prop} {i1 : Int32} {i2 : Int32} {i3 : Int32} {i4 : Int32} {s0 : Int32} {n : Nat} (z0 : Nat) (G : mxG h)  (hB : i1 = nI n) (hn : n < 2147483648) (hz : z0 ≤ n) (ob : ∀ z, z0 ≤ z → z < n → ((((V_194 (mx_i h 382) i4 (nI z)) = 0 → True) ∧ (¬ (V_194 (mx_i h 382) i4 (nI z)) = 0 → (cB (mx_i h 382 4) 10 ∧ True))) ∧ True)) (k : ((((mx_i h 382 6) < (fz (F_272_29 (mx_i h 382) i1 i2 i3 i4) z0 n s0) → True) ∧ (¬ (mx_i h 382 6) < (fz (F_272_29 (mx_i h 382) i1 i2 i3 i4) z0 n s0) → (vp_in (i2 &&& (i4 ^^^ (-1))) 1024 ∧ True))) ∧ (∀ (v2 : Int32), v2 = ((if (mx_i h 382 6) < (fz (F_272_29 (mx_i h 382) i1 i2 i3 i4) z0 n s0) then i3 else (if (mx_i h 388 (i2 &&& (i4 ^^^ (-1))).toNatClampNeg) = 2000000000 then i3 else (V_192 (mx_i h 382) i3 (1 + (mx_i h 388 (i2 &&& (i4 ^^^ (-1))).toNatClampNeg))))) : Int32) → H_272_23 (d + 3) h i1 i2 v2 ((i4 - 1) &&& i2) Q))) : H_272_29 (d + 3) h i1 i2 i3 i4 s0 (nI z0) Q := by
  have L : ∀ (j z : Nat), z0 ≤ z → z + j = n → H_272_29 (d + 3) h i1 i2 i3 i4 (fz (F_272_29 (mx_i h 382) i1 i2 i3 i4) z0 z s0) (nI z) Q := by
    intro j
    induction j with
    | zero =>
      intro z hz0 hzn
      have hzn : z = n := by omega
      subst hzn
      refine tr_272_29 G  ⟨fun c9 => absurd (hB ▸ c9) Int32.lt_irrefl, fun c9 => k⟩
    | succ j ih =>
      intro z hz0 hzn
      have hih := ih (z + 1) (by omega) (by omega)
      rw [nI_succ, fz_s hz0] at hih
      have hob := ob z hz0 (by omega)
      refine tr_272_29 G  ⟨fun c9 => ?_, fun c9 => absurd (hB.symm ▸ nI_lt (by omega) hn) c9⟩
      obtain ⟨q0, hob⟩ := hob
      refine ⟨q0, ?_⟩
      intro v6 ev6
      subst ev6
      exact hih
  have L0 := L (n - z0) z0 (Nat.le_refl _) (by omega)
  simp only [fz_0] at L0
  exact L0
/-! 273: StoneBacksModel.pays(IZ)I -/
def H_273_23 (d : Nat) (h : mxH) (i1 : Int32) (i2 : Int32) (i3 : Int32) (i4 : Int32) (i5 : Int32) (Q : mxO → mxH → Prop) : Prop := mx_wp d 273 23 [some (.ref 381), some (.int i1), some (.int i2), some (.int i3), some (.int i4), some (.int i5)] [] h Q
set_option maxRecDepth 8000 in
theorem tr_273_0 {d : Nat} {h : mxH} {Q : mxO → mxH → Prop} {i1 : Int32} {i2 : Int32} (G : mxG h)  (H : (((V_191 (mx_i h 382) i1 (0 : Int32) ((mx_i h 382 3) - 1)) = 0 ∨ (V_191 (mx_i h 382) i1 (0 : Int32) ((mx_i h 382 3) - 1)) = 1) ∧ (∀ (v2 : Int32), v2 = ((if (V_200 (mx_i h 382) i1) = 0 then 1 else 0) : Int32) → (∀ h3, h3 = mx_wi h 381 0 v2 → ((0 < (mx_i h3 381 0) → Q (.inl (some (.int 0))) h3) ∧ (¬ 0 < (mx_i h3 381 0) → (cB (mx_i h3 382 4) 10 ∧ isI (0 : Int32) 6 ∧ H_273_23 (d + 2) h3 i1 i2 (V_243 (mx_i h3 382) i1 (0 : Int32)) 0 0 Q))))))) : mx_wp (d + 2) 273 0 (mx_fr 273 [.ref 381, .int i1, .int i2]) [] h Q := by
  show mx_wp (d + 2) 273 0 [some (.ref 381), some (.int i1), some (.int i2), none, none, none] [] h Q
  refine wp_steps (i' := 3) (ls' := [some (.ref 381), some (.int i1), some (.int i2), none, none, none]) (st' := [.int i1, .ref 381, .ref 381]) (h' := h) (P := True) 3 rfl rfl trivial ?_
  obtain ⟨o1, H⟩ := H
  refine wp_call (b := false) (y' := 200) (as := [.ref 381, .int i1]) (rest := [.ref 381]) (P := ((mxT 381).1 = mxRc 200 ∧ mxG h)) rfl (by with_unfolding_all rfl) ⟨(congrArg Prod.fst sT_381), G⟩ (Nat.le_of_ble_eq_true rfl) (sp_200 G o1 ?_)
  show mx_wp (d + 2) 273 4 [some (.ref 381), some (.int i1), some (.int i2), none, none, none] [.int (V_200 (mx_i h 382) i1), .ref 381] h Q
  have J : ∀ (v2 : Int32) (ev2 : v2 = ((if (V_200 (mx_i h 382) i1) = 0 then 1 else 0) : Int32)), mx_wp (d + 2) 273 8 [some (.ref 381), some (.int i1), some (.int i2), none, none, none] [.int v2, .ref 381] h Q := by
    intro v2 ev2
    have H := H v2 ev2
    refine wp_steps (i' := 9) (ls' := [some (.ref 381), some (.int i1), some (.int i2), none, none, none]) (st' := []) (h' := mx_wi h 381 0 v2) (P := ((mxT 381).1 = 11 ∧ mxG h) ∧ True) 1 rfl rfl ⟨⟨(congrArg Prod.fst sT_381), G⟩, trivial⟩ ?_
    obtain ⟨h3, e4⟩ : ∃ z9, z9 = mx_wi h 381 0 v2 := ⟨_, rfl⟩
    rw [← e4]
    have H := H h3 e4
    have G5 : mxG h3 := e4 ▸ mxG_wi G
    refine wp_steps (i' := 11) (ls' := [some (.ref 381), some (.int i1), some (.int i2), none, none, none]) (st' := [.int (mx_i h3 381 0)]) (h' := h3) (P := ((mxT 381).1 = 11 ∧ mxG h3) ∧ True) 2 rfl rfl ⟨⟨(congrArg Prod.fst sT_381), G5⟩, trivial⟩ ?_
    refine wp_br (P := True) (c := (mx_i h3 381 0) ≤ 0) (t := 14) (st' := []) rfl rfl trivial (fun c6 => ?_) (fun c6 => ?_)
    · have c6 := Int32.not_lt.mpr c6
      have H := H.2 c6
      refine wp_steps (i' := 17) (ls' := [some (.ref 381), some (.int i1), some (.int i2), none, none, none]) (st' := [.int 0, .int i1, .ref 381]) (h' := h3) (P := True) 3 rfl rfl trivial ?_
      obtain ⟨o7, o8, H⟩ := H
      refine wp_call (b := false) (y' := 243) (as := [.ref 381, .int i1, .int 0]) (rest := []) (P := ((mxT 381).1 = mxRc 243 ∧ mxG h3)) rfl (by with_unfolding_all rfl) ⟨(congrArg Prod.fst sT_381), G5⟩ (Nat.le_of_ble_eq_true rfl) (sp_243 G5 o7 o8 ?_)
      show mx_wp (d + 2) 273 18 [some (.ref 381), some (.int i1), some (.int i2), none, none, none] [.int (V_243 (mx_i h3 382) i1 (0 : Int32))] h3 Q
      refine wp_steps (i' := 23) (ls' := [some (.ref 381), some (.int i1), some (.int i2), some (.int (V_243 (mx_i h3 382) i1 (0 : Int32))), some (.int 0), some (.int 0)]) (st' := []) (h' := h3) (P := True) 5 rfl rfl trivial ?_
      exact H 
    · have c6 := Int32.not_le.mp c6
      have H := H.1 c6
      refine wp_steps (i' := 13) (ls' := [some (.ref 381), some (.int i1), some (.int i2), none, none, none]) (st' := [.int 0]) (h' := h3) (P := True) 1 rfl rfl trivial ?_
      exact wp_end (o := .inl (some (.int 0))) (h' := h3) (P := True) rfl rfl trivial H
  refine wp_br (P := True) (c := ¬ (V_200 (mx_i h 382) i1) = 0) (t := 7) (st' := [.ref 381]) rfl rfl trivial (fun c9 => ?_) (fun c9 => ?_)
  · skip
    refine wp_steps (i' := 8) (ls' := [some (.ref 381), some (.int i1), some (.int i2), none, none, none]) (st' := [.int 0, .ref 381]) (h' := h) (P := True) 1 rfl rfl trivial ?_
    exact J _ (by rw [if_neg c9])
  · have c9 := Decidable.of_not_not c9
    refine wp_steps (i' := 6) (ls' := [some (.ref 381), some (.int i1), some (.int i2), none, none, none]) (st' := [.int 1, .ref 381]) (h' := h) (P := True) 1 rfl rfl trivial ?_
    refine wp_J (j := 8) (st' := [.int 1, .ref 381]) rfl rfl ?_
    exact J _ (by rw [if_pos c9])
set_option maxRecDepth 8000 in
theorem tr_273_23 {d : Nat} {h : mxH} {Q : mxO → mxH → Prop}  {i1 : Int32} {i2 : Int32} {i3 : Int32} {i4 : Int32} {i5 : Int32} (G : mxG h)  (H : ((i5 < ((1 : Int32) <<< ((mx_i h 382 4) &&& 31)) → ((((i5 &&& (i3 ^^^ (-1))) = 0 → (cB (mx_i h 382 4) 10 ∧ (vp_in ((33 + (6 * i1)) + (0 : Int32)) 769 ∧ True))) ∧ (¬ (i5 &&& (i3 ^^^ (-1))) = 0 → True)) ∧ (∀ (v5 : Int32), v5 = ((if (i5 &&& (i3 ^^^ (-1))) = 0 then (if (V_196 (mx_i h 382) i1 (0 : Int32)) < (V_204 (mx_i h 382) i5) then i4 else (if (V_204 (mx_i h 382) i4) < (V_204 (mx_i h 382) i5) then i5 else i4)) else i4) : Int32) → H_273_23 (d + 2) h i1 i2 i3 v5 (i5 + 1) Q))) ∧ (¬ i5 < ((1 : Int32) <<< ((mx_i h 382 4) &&& 31)) → (((i2 = 0 → True) ∧ (¬ i2 = 0 → (cB (mx_i h 382 4) 10 ∧ True))) ∧ (∀ (v2 : Int32), v2 = ((if i2 = 0 then i4 else (V_204 (mx_i h 382) i4)) : Int32) → Q (.inl (some (.int v2))) h))))) : H_273_23 (d + 2) h i1 i2 i3 i4 i5 Q := by
  show mx_wp (d + 2) 273 23 [some (.ref 381), some (.int i1), some (.int i2), some (.int i3), some (.int i4), some (.int i5)] [] h Q
  refine wp_steps (i' := 30) (ls' := [some (.ref 381), some (.int i1), some (.int i2), some (.int i3), some (.int i4), some (.int i5)]) (st' := [.int ((1 : Int32) <<< ((mx_i h 382 4) &&& 31)), .int i5]) (h' := h) (P := ((mxT 381).1 = 11 ∧ mxG h) ∧ (((mxT 382).1 = 50 ∧ mxG h) ∧ vp_in 4 (mxT 382).2) ∧ True) 7 rfl rfl ⟨⟨(congrArg Prod.fst sT_381), G⟩, (cA sT_382 G (vpl rfl)), trivial⟩ ?_
  refine wp_br (P := True) (c := ((1 : Int32) <<< ((mx_i h 382 4) &&& 31)) ≤ i5) (t := 56) (st' := []) rfl rfl trivial (fun c1 => ?_) (fun c1 => ?_)
  · have c1 := Int32.not_lt.mpr c1
    have H := H.2 c1
    refine wp_steps (i' := 57) (ls' := [some (.ref 381), some (.int i1), some (.int i2), some (.int i3), some (.int i4), some (.int i5)]) (st' := [.int i2]) (h' := h) (P := True) 1 rfl rfl trivial ?_
    have J : ∀ (v2 : Int32) (ev2 : v2 = ((if i2 = 0 then i4 else (V_204 (mx_i h 382) i4)) : Int32)), mx_wp (d + 2) 273 63 [some (.ref 381), some (.int i1), some (.int i2), some (.int i3), some (.int i4), some (.int i5)] [.int v2] h Q := by
      intro v2 ev2
      have H := H.2 v2 ev2
      exact wp_end (o := .inl (some (.int v2))) (h' := h) (P := True) rfl rfl trivial H
    have H := H.1
    refine wp_br (P := True) (c := i2 = 0) (t := 62) (st' := []) rfl rfl trivial (fun c3 => ?_) (fun c3 => ?_)
    · skip
      refine wp_steps (i' := 63) (ls' := [some (.ref 381), some (.int i1), some (.int i2), some (.int i3), some (.int i4), some (.int i5)]) (st' := [.int i4]) (h' := h) (P := True) 1 rfl rfl trivial ?_
      exact J _ (by rw [if_pos c3])
    · skip
      have H := H.2 c3
      refine wp_steps (i' := 60) (ls' := [some (.ref 381), some (.int i1), some (.int i2), some (.int i3), some (.int i4), some (.int i5)]) (st' := [.int i4, .ref 381]) (h' := h) (P := True) 2 rfl rfl trivial ?_
      obtain ⟨o4, H⟩ := H
      refine wp_call (b := false) (y' := 204) (as := [.ref 381, .int i4]) (rest := []) (P := ((mxT 381).1 = mxRc 204 ∧ mxG h)) rfl (by with_unfolding_all rfl) ⟨(congrArg Prod.fst sT_381), G⟩ (Nat.le_of_ble_eq_true rfl) (sp_204 G o4 ?_)
      show mx_wp (d + 2) 273 61 [some (.ref 381), some (.int i1), some (.int i2), some (.int i3), some (.int i4), some (.int i5)] [.int (V_204 (mx_i h 382) i4)] h Q
      refine wp_J (j := 63) (st' := [.int (V_204 (mx_i h 382) i4)]) rfl rfl ?_
      exact J _ (by rw [if_neg c3])
  · have c1 := Int32.not_le.mp c1
    have H := H.1 c1
    refine wp_steps (i' := 36) (ls' := [some (.ref 381), some (.int i1), some (.int i2), some (.int i3), some (.int i4), some (.int i5)]) (st' := [.int (i5 &&& (i3 ^^^ (-1)))]) (h' := h) (P := True) 5 rfl rfl trivial ?_
    have J : ∀ (v5 : Int32) (ev5 : v5 = ((if (i5 &&& (i3 ^^^ (-1))) = 0 then (if (V_196 (mx_i h 382) i1 (0 : Int32)) < (V_204 (mx_i h 382) i5) then i4 else (if (V_204 (mx_i h 382) i4) < (V_204 (mx_i h 382) i5) then i5 else i4)) else i4) : Int32)), mx_wp (d + 2) 273 54 [some (.ref 381), some (.int i1), some (.int i2), some (.int i3), some (.int v5), some (.int i5)] [] h Q := by
      intro v5 ev5
      have H := H.2 v5 ev5
      refine wp_steps (i' := 55) (ls' := [some (.ref 381), some (.int i1), some (.int i2), some (.int i3), some (.int v5), some (.int (i5 + 1))]) (st' := []) (h' := h) (P := True) 1 rfl rfl trivial ?_
      refine wp_J (j := 23) (st' := []) rfl rfl ?_
      exact H 
    have H := H.1
    refine wp_br (P := True) (c := ¬ (i5 &&& (i3 ^^^ (-1))) = 0) (t := 54) (st' := []) rfl rfl trivial (fun c6 => ?_) (fun c6 => ?_)
    · skip
      exact J _ (by rw [if_neg c6])
    · have c6 := Decidable.of_not_not c6
      have H := H.1 c6
      refine wp_steps (i' := 39) (ls' := [some (.ref 381), some (.int i1), some (.int i2), some (.int i3), some (.int i4), some (.int i5)]) (st' := [.int i5, .ref 381]) (h' := h) (P := True) 2 rfl rfl trivial ?_
      obtain ⟨o7, H⟩ := H
      refine wp_call (b := false) (y' := 204) (as := [.ref 381, .int i5]) (rest := []) (P := ((mxT 381).1 = mxRc 204 ∧ mxG h)) rfl (by with_unfolding_all rfl) ⟨(congrArg Prod.fst sT_381), G⟩ (Nat.le_of_ble_eq_true rfl) (sp_204 G o7 ?_)
      show mx_wp (d + 2) 273 40 [some (.ref 381), some (.int i1), some (.int i2), some (.int i3), some (.int i4), some (.int i5)] [.int (V_204 (mx_i h 382) i5)] h Q
      refine wp_steps (i' := 43) (ls' := [some (.ref 381), some (.int i1), some (.int i2), some (.int i3), some (.int i4), some (.int i5)]) (st' := [.int 0, .int i1, .ref 381, .int (V_204 (mx_i h 382) i5)]) (h' := h) (P := True) 3 rfl rfl trivial ?_
      obtain ⟨o8, H⟩ := H
      refine wp_call (b := false) (y' := 196) (as := [.ref 381, .int i1, .int 0]) (rest := [.int (V_204 (mx_i h 382) i5)]) (P := ((mxT 381).1 = mxRc 196 ∧ mxG h)) rfl (by with_unfolding_all rfl) ⟨(congrArg Prod.fst sT_381), G⟩ (Nat.le_of_ble_eq_true rfl) (sp_196 G o8 ?_)
      show mx_wp (d + 2) 273 44 [some (.ref 381), some (.int i1), some (.int i2), some (.int i3), some (.int i4), some (.int i5)] [.int (V_196 (mx_i h 382) i1 (0 : Int32)), .int (V_204 (mx_i h 382) i5)] h Q
      refine wp_br (P := True) (c := (V_196 (mx_i h 382) i1 (0 : Int32)) < (V_204 (mx_i h 382) i5)) (t := 54) (st' := []) rfl rfl trivial (fun c9 => ?_) (fun c9 => ?_)
      · skip
        exact J _ (by rw [if_pos c6, if_pos c9])
      · skip
        refine wp_steps (i' := 47) (ls' := [some (.ref 381), some (.int i1), some (.int i2), some (.int i3), some (.int i4), some (.int i5)]) (st' := [.int i5, .ref 381]) (h' := h) (P := True) 2 rfl rfl trivial ?_
        refine wp_call (b := false) (y' := 204) (as := [.ref 381, .int i5]) (rest := []) (P := ((mxT 381).1 = mxRc 204 ∧ mxG h)) rfl (by with_unfolding_all rfl) ⟨(congrArg Prod.fst sT_381), G⟩ (Nat.le_of_ble_eq_true rfl) (sp_204 G o7 ?_)
        show mx_wp (d + 2) 273 48 [some (.ref 381), some (.int i1), some (.int i2), some (.int i3), some (.int i4), some (.int i5)] [.int (V_204 (mx_i h 382) i5)] h Q
        refine wp_steps (i' := 50) (ls' := [some (.ref 381), some (.int i1), some (.int i2), some (.int i3), some (.int i4), some (.int i5)]) (st' := [.int i4, .ref 381, .int (V_204 (mx_i h 382) i5)]) (h' := h) (P := True) 2 rfl rfl trivial ?_
        refine wp_call (b := false) (y' := 204) (as := [.ref 381, .int i4]) (rest := [.int (V_204 (mx_i h 382) i5)]) (P := ((mxT 381).1 = mxRc 204 ∧ mxG h)) rfl (by with_unfolding_all rfl) ⟨(congrArg Prod.fst sT_381), G⟩ (Nat.le_of_ble_eq_true rfl) (sp_204 G o7 ?_)
        show mx_wp (d + 2) 273 51 [some (.ref 381), some (.int i1), some (.int i2), some (.int i3), some (.int i4), some (.int i5)] [.int (V_204 (mx_i h 382) i4), .int (V_204 (mx_i h 382) i5)] h Q
        refine wp_br (P := True) (c := (V_204 (mx_i h 382) i5) ≤ (V_204 (mx_i h 382) i4)) (t := 54) (st' := []) rfl rfl trivial (fun c10 => ?_) (fun c10 => ?_)
        · have c10 := Int32.not_lt.mpr c10
          exact J _ (by rw [if_pos c6, if_neg c9, if_neg c10])
        · have c10 := Int32.not_le.mp c10
          refine wp_steps (i' := 54) (ls' := [some (.ref 381), some (.int i1), some (.int i2), some (.int i3), some (.int i5), some (.int i5)]) (st' := []) (h' := h) (P := True) 2 rfl rfl trivial ?_
          exact J _ (by rw [if_pos c6, if_neg c9, if_pos c10])
def F_273_23 (r : Nat → Int32) (i1 : Int32) (i2 : Int32) (i3 : Int32) (z : Nat) (s : Int32) : Int32 := ((if ((nI z) &&& (i3 ^^^ (-1))) = 0 then (if (V_196 (r) i1 (0 : Int32)) < (V_204 (r) (nI z)) then s else (if (V_204 (r) s) < (V_204 (r) (nI z)) then (nI z) else s)) else s) : Int32)
theorem lp_273_23 {d : Nat} {h : mxH} {Q : mxO → mxH → Prop} {i1 : Int32} {i2 : Int32} {i3 : Int32} {s0 : Int32} {n : Nat} (z0 : Nat) (G : mxG h)  (hB : ((1 : Int32) <<< ((mx_i h 382 4) &&& 31)) = nI n) (hn : n < 2147483648) (hz : z0 ≤ n) (ob : ∀ z, z0 ≤ z → z < n → (((((nI z) &&& (i3 ^^^ (-1))) = 0 → (cB (mx_i h 382 4) 10 ∧ (vp_in ((33 + (6 * i1)) + (0 : Int32)) 769 ∧ True))) ∧ (¬ ((nI z) &&& (i3 ^^^ (-1))) = 0 → True)) ∧ True)) (k : (((i2 = 0 → True) ∧ (¬ i2 = 0 → (cB (mx_i h 382 4) 10 ∧ True))) ∧ (∀ (v2 : Int32), v2 = ((if i2 = 0 then (fz (F_273_23 (mx_i h 382) i1 i2 i3) z0 n s0) else (V_204 (mx_i h 382) (fz (F_273_23 (mx_i h 382) i1 i2 i3) z0 n s0))) : Int32) → Q (.inl (some (.int v2))) h))) : H_273_23 (d + 2) h i1 i2 i3 s0 (nI z0) Q := by
  have L : ∀ (j z : Nat), z0 ≤ z → z + j = n → H_273_23 (d + 2) h i1 i2 i3 (fz (F_273_23 (mx_i h 382) i1 i2 i3) z0 z s0) (nI z) Q := by
    intro j
    induction j with
    | zero =>
      intro z hz0 hzn
      have hzn : z = n := by omega
      subst hzn
      refine tr_273_23 G  ⟨fun c9 => absurd (hB ▸ c9) Int32.lt_irrefl, fun c9 => k⟩
    | succ j ih =>
      intro z hz0 hzn
      have hih := ih (z + 1) (by omega) (by omega)
      rw [nI_succ, fz_s hz0] at hih
      have hob := ob z hz0 (by omega)
      refine tr_273_23 G  ⟨fun c9 => ?_, fun c9 => absurd (hB.symm ▸ nI_lt (by omega) hn) c9⟩
      obtain ⟨q0, hob⟩ := hob
      refine ⟨q0, ?_⟩
      intro v5 ev5
      subst ev5
      exact hih
  have L0 := L (n - z0) z0 (Nat.le_refl _) (by omega)
  simp only [fz_0] at L0
  exact L0
/-! 275: StoneBacksModel.owes(II)Z -/
def H_275_29 (d : Nat) (h : mxH) (i2 : Int32) (i3 : Int32) (i4 : Int32) (Q : mxO → mxH → Prop) : Prop := ∀ (w1 : Option Value) (w5 : Option Value), mx_wp d 275 29 [some (.ref 381), w1, some (.int i2), some (.int i3), some (.int i4), w5] [] h Q
def H_275_34 (d : Nat) (h : mxH) (i2 : Int32) (i3 : Int32) (i4 : Int32) (i5 : Int32) (Q : mxO → mxH → Prop) : Prop := ∀ (w1 : Option Value), mx_wp d 275 34 [some (.ref 381), w1, some (.int i2), some (.int i3), some (.int i4), some (.int i5)] [] h Q
set_option maxRecDepth 8000 in
theorem tr_275_0 {d : Nat} {h : mxH} {Q : mxO → mxH → Prop} {i1 : Int32} {i2 : Int32} (G : mxG h)  (H : (((V_191 (mx_i h 382) i1 (0 : Int32) ((mx_i h 382 3) - 1)) = 0 ∨ (V_191 (mx_i h 382) i1 (0 : Int32) ((mx_i h 382 3) - 1)) = 1) ∧ ((((V_200 (mx_i h 382) i1) = 0 → True) ∧ (¬ (V_200 (mx_i h 382) i1) = 0 → (((V_191 (mx_i h 382) i2 (0 : Int32) ((mx_i h 382 3) - 1)) = 0 ∨ (V_191 (mx_i h 382) i2 (0 : Int32) ((mx_i h 382 3) - 1)) = 1) ∧ True))) ∧ (∀ (v2 : Int32), v2 = ((if (V_200 (mx_i h 382) i1) = 0 then 1 else (if (V_200 (mx_i h 382) i2) = 0 then 1 else (if i1 = i2 then 2 else 0))) : Int32) → (∀ h3, h3 = mx_wi h 381 0 v2 → ((0 < (mx_i h3 381 0) → Q (.inl (some (.int 0))) h3) ∧ (¬ 0 < (mx_i h3 381 0) → H_275_29 (d + 2) h3 i2 ((1 : Int32) <<< (i1 &&& 31)) 0 Q))))))) : mx_wp (d + 2) 275 0 (mx_fr 275 [.ref 381, .int i1, .int i2]) [] h Q := by
  show mx_wp (d + 2) 275 0 [some (.ref 381), some (.int i1), some (.int i2), none, none, none] [] h Q
  refine wp_steps (i' := 3) (ls' := [some (.ref 381), some (.int i1), some (.int i2), none, none, none]) (st' := [.int i1, .ref 381, .ref 381]) (h' := h) (P := True) 3 rfl rfl trivial ?_
  obtain ⟨o1, H⟩ := H
  refine wp_call (b := false) (y' := 200) (as := [.ref 381, .int i1]) (rest := [.ref 381]) (P := ((mxT 381).1 = mxRc 200 ∧ mxG h)) rfl (by with_unfolding_all rfl) ⟨(congrArg Prod.fst sT_381), G⟩ (Nat.le_of_ble_eq_true rfl) (sp_200 G o1 ?_)
  show mx_wp (d + 2) 275 4 [some (.ref 381), some (.int i1), some (.int i2), none, none, none] [.int (V_200 (mx_i h 382) i1), .ref 381] h Q
  have J : ∀ (v2 : Int32) (ev2 : v2 = ((if (V_200 (mx_i h 382) i1) = 0 then 1 else (if (V_200 (mx_i h 382) i2) = 0 then 1 else (if i1 = i2 then 2 else 0))) : Int32)), mx_wp (d + 2) 275 17 [some (.ref 381), some (.int i1), some (.int i2), none, none, none] [.int v2, .ref 381] h Q := by
    intro v2 ev2
    have H := H.2 v2 ev2
    refine wp_steps (i' := 18) (ls' := [some (.ref 381), some (.int i1), some (.int i2), none, none, none]) (st' := []) (h' := mx_wi h 381 0 v2) (P := ((mxT 381).1 = 11 ∧ mxG h) ∧ True) 1 rfl rfl ⟨⟨(congrArg Prod.fst sT_381), G⟩, trivial⟩ ?_
    obtain ⟨h3, e4⟩ : ∃ z9, z9 = mx_wi h 381 0 v2 := ⟨_, rfl⟩
    rw [← e4]
    have H := H h3 e4
    have G5 : mxG h3 := e4 ▸ mxG_wi G
    refine wp_steps (i' := 20) (ls' := [some (.ref 381), some (.int i1), some (.int i2), none, none, none]) (st' := [.int (mx_i h3 381 0)]) (h' := h3) (P := ((mxT 381).1 = 11 ∧ mxG h3) ∧ True) 2 rfl rfl ⟨⟨(congrArg Prod.fst sT_381), G5⟩, trivial⟩ ?_
    refine wp_br (P := True) (c := (mx_i h3 381 0) ≤ 0) (t := 23) (st' := []) rfl rfl trivial (fun c6 => ?_) (fun c6 => ?_)
    · have c6 := Int32.not_lt.mpr c6
      have H := H.2 c6
      refine wp_steps (i' := 29) (ls' := [some (.ref 381), some (.int i1), some (.int i2), some (.int ((1 : Int32) <<< (i1 &&& 31))), some (.int 0), none]) (st' := []) (h' := h3) (P := True) 6 rfl rfl trivial ?_
      exact H _ _
    · have c6 := Int32.not_le.mp c6
      have H := H.1 c6
      refine wp_steps (i' := 22) (ls' := [some (.ref 381), some (.int i1), some (.int i2), none, none, none]) (st' := [.int 0]) (h' := h3) (P := True) 1 rfl rfl trivial ?_
      exact wp_end (o := .inl (some (.int 0))) (h' := h3) (P := ((0 : Int32) = 0 ∨ (0 : Int32) = 1)) rfl rfl (Or.inl rfl) H
  have H := H.1
  refine wp_br (P := True) (c := (V_200 (mx_i h 382) i1) = 0) (t := 9) (st' := [.ref 381]) rfl rfl trivial (fun c7 => ?_) (fun c7 => ?_)
  · skip
    refine wp_steps (i' := 10) (ls' := [some (.ref 381), some (.int i1), some (.int i2), none, none, none]) (st' := [.int 1, .ref 381]) (h' := h) (P := True) 1 rfl rfl trivial ?_
    refine wp_J (j := 17) (st' := [.int 1, .ref 381]) rfl rfl ?_
    exact J _ (by rw [if_pos c7])
  · skip
    have H := H.2 c7
    refine wp_steps (i' := 7) (ls' := [some (.ref 381), some (.int i1), some (.int i2), none, none, none]) (st' := [.int i2, .ref 381, .ref 381]) (h' := h) (P := True) 2 rfl rfl trivial ?_
    obtain ⟨o8, H⟩ := H
    refine wp_call (b := false) (y' := 200) (as := [.ref 381, .int i2]) (rest := [.ref 381]) (P := ((mxT 381).1 = mxRc 200 ∧ mxG h)) rfl (by with_unfolding_all rfl) ⟨(congrArg Prod.fst sT_381), G⟩ (Nat.le_of_ble_eq_true rfl) (sp_200 G o8 ?_)
    show mx_wp (d + 2) 275 8 [some (.ref 381), some (.int i1), some (.int i2), none, none, none] [.int (V_200 (mx_i h 382) i2), .ref 381] h Q
    refine wp_br (P := True) (c := ¬ (V_200 (mx_i h 382) i2) = 0) (t := 11) (st' := [.ref 381]) rfl rfl trivial (fun c9 => ?_) (fun c9 => ?_)
    · skip
      refine wp_steps (i' := 13) (ls' := [some (.ref 381), some (.int i1), some (.int i2), none, none, none]) (st' := [.int i2, .int i1, .ref 381]) (h' := h) (P := True) 2 rfl rfl trivial ?_
      refine wp_br (P := True) (c := ¬ i1 = i2) (t := 16) (st' := [.ref 381]) rfl rfl trivial (fun c10 => ?_) (fun c10 => ?_)
      · skip
        refine wp_steps (i' := 17) (ls' := [some (.ref 381), some (.int i1), some (.int i2), none, none, none]) (st' := [.int 0, .ref 381]) (h' := h) (P := True) 1 rfl rfl trivial ?_
        exact J _ (by rw [if_neg c7, if_neg c9, if_neg c10])
      · have c10 := Decidable.of_not_not c10
        refine wp_steps (i' := 15) (ls' := [some (.ref 381), some (.int i1), some (.int i2), none, none, none]) (st' := [.int 2, .ref 381]) (h' := h) (P := True) 1 rfl rfl trivial ?_
        refine wp_J (j := 17) (st' := [.int 2, .ref 381]) rfl rfl ?_
        exact J _ (by rw [if_neg c7, if_neg c9, if_pos c10])
    · have c9 := Decidable.of_not_not c9
      refine wp_steps (i' := 10) (ls' := [some (.ref 381), some (.int i1), some (.int i2), none, none, none]) (st' := [.int 1, .ref 381]) (h' := h) (P := True) 1 rfl rfl trivial ?_
      refine wp_J (j := 17) (st' := [.int 1, .ref 381]) rfl rfl ?_
      exact J _ (by rw [if_neg c7, if_pos c9])
set_option maxRecDepth 8000 in
theorem tr_275_29 {d : Nat} {h : mxH} {Q : mxO → mxH → Prop}  {i2 : Int32} {i3 : Int32} {i4 : Int32} (G : mxG h)  (H : ((i4 < 6 → H_275_34 (d + 2) h i2 i3 i4 0 Q) ∧ (¬ i4 < 6 → (((V_194 (mx_i h 382) i3 i2) = 0 ∨ (V_194 (mx_i h 382) i3 i2) = 1) ∧ Q (.inl (some (.int (V_194 (mx_i h 382) i3 i2)))) h)))) : H_275_29 (d + 2) h i2 i3 i4 Q := by
  intro w1 w5
  show mx_wp (d + 2) 275 29 [some (.ref 381), w1, some (.int i2), some (.int i3), some (.int i4), w5] [] h Q
  refine wp_steps (i' := 31) (ls' := [some (.ref 381), w1, some (.int i2), some (.int i3), some (.int i4), w5]) (st' := [.int 6, .int i4]) (h' := h) (P := True) 2 rfl rfl trivial ?_
  refine wp_br (P := True) (c := 6 ≤ i4) (t := 66) (st' := []) rfl rfl trivial (fun c1 => ?_) (fun c1 => ?_)
  · have c1 := Int32.not_lt.mpr c1
    have H := H.2 c1
    refine wp_steps (i' := 68) (ls' := [some (.ref 381), w1, some (.int i2), some (.int i3), some (.int i4), w5]) (st' := [.int i2, .int i3]) (h' := h) (P := True) 2 rfl rfl trivial ?_
    refine wp_call (b := false) (y' := 194) (as := [.int i3, .int i2]) (rest := []) (P := True) rfl (by with_unfolding_all rfl) trivial (Nat.le_of_ble_eq_true rfl) (sp_194 G ?_)
    show mx_wp (d + 2) 275 69 [some (.ref 381), w1, some (.int i2), some (.int i3), some (.int i4), w5] [.int (V_194 (mx_i h 382) i3 i2)] h Q
    obtain ⟨o2, H⟩ := H
    exact wp_end (o := .inl (some (.int (V_194 (mx_i h 382) i3 i2)))) (h' := h) (P := ((V_194 (mx_i h 382) i3 i2) = 0 ∨ (V_194 (mx_i h 382) i3 i2) = 1)) rfl rfl o2 H
  · have c1 := Int32.not_le.mp c1
    have H := H.1 c1
    refine wp_steps (i' := 34) (ls' := [some (.ref 381), w1, some (.int i2), some (.int i3), some (.int i4), some (.int 0)]) (st' := []) (h' := h) (P := True) 2 rfl rfl trivial ?_
    exact H _
set_option maxRecDepth 8000 in
theorem tr_275_34 {d : Nat} {h : mxH} {Q : mxO → mxH → Prop}  {i2 : Int32} {i3 : Int32} {i4 : Int32} {i5 : Int32} (G : mxG h)  (H : ((i5 < (mx_i h 382 4) → (vp_in ((69 + (6 * i5)) + (3 : Int32)) 769 ∧ ((((V_198 (mx_i h 382) i5 (3 : Int32)) < 2 → (vp_in ((69 + (6 * i5)) + (0 : Int32)) 769 ∧ (((V_194 (mx_i h 382) i3 (V_198 (mx_i h 382) i5 (0 : Int32))) = 0 → True) ∧ (¬ (V_194 (mx_i h 382) i3 (V_198 (mx_i h 382) i5 (0 : Int32))) = 0 → (vp_in ((69 + (6 * i5)) + (1 : Int32)) 769 ∧ True))))) ∧ (¬ (V_198 (mx_i h 382) i5 (3 : Int32)) < 2 → True)) ∧ (∀ (v3 : Int32), v3 = ((if (V_198 (mx_i h 382) i5 (3 : Int32)) < 2 then (if (V_194 (mx_i h 382) i3 (V_198 (mx_i h 382) i5 (0 : Int32))) = 0 then i3 else (i3 ||| ((1 : Int32) <<< ((V_198 (mx_i h 382) i5 (1 : Int32)) &&& 31)))) else i3) : Int32) → H_275_34 (d + 2) h i2 v3 i4 (i5 + 1) Q)))) ∧ (¬ i5 < (mx_i h 382 4) → H_275_29 (d + 2) h i2 i3 (i4 + 1) Q))) : H_275_34 (d + 2) h i2 i3 i4 i5 Q := by
  intro w1
  show mx_wp (d + 2) 275 34 [some (.ref 381), w1, some (.int i2), some (.int i3), some (.int i4), some (.int i5)] [] h Q
  refine wp_steps (i' := 39) (ls' := [some (.ref 381), w1, some (.int i2), some (.int i3), some (.int i4), some (.int i5)]) (st' := [.int (mx_i h 382 4), .int i5]) (h' := h) (P := ((mxT 381).1 = 11 ∧ mxG h) ∧ (((mxT 382).1 = 50 ∧ mxG h) ∧ vp_in 4 (mxT 382).2) ∧ True) 5 rfl rfl ⟨⟨(congrArg Prod.fst sT_381), G⟩, (cA sT_382 G (vpl rfl)), trivial⟩ ?_
  refine wp_br (P := True) (c := (mx_i h 382 4) ≤ i5) (t := 64) (st' := []) rfl rfl trivial (fun c1 => ?_) (fun c1 => ?_)
  · have c1 := Int32.not_lt.mpr c1
    have H := H.2 c1
    refine wp_steps (i' := 65) (ls' := [some (.ref 381), w1, some (.int i2), some (.int i3), some (.int (i4 + 1)), some (.int i5)]) (st' := []) (h' := h) (P := True) 1 rfl rfl trivial ?_
    refine wp_J (j := 29) (st' := []) rfl rfl ?_
    exact H _ _
  · have c1 := Int32.not_le.mp c1
    have H := H.1 c1
    refine wp_steps (i' := 43) (ls' := [some (.ref 381), w1, some (.int i2), some (.int i3), some (.int i4), some (.int i5)]) (st' := [.int 3, .int i5, .ref 381]) (h' := h) (P := True) 3 rfl rfl trivial ?_
    obtain ⟨o2, H⟩ := H
    refine wp_call (b := false) (y' := 198) (as := [.ref 381, .int i5, .int 3]) (rest := []) (P := ((mxT 381).1 = mxRc 198 ∧ mxG h)) rfl (by with_unfolding_all rfl) ⟨(congrArg Prod.fst sT_381), G⟩ (Nat.le_of_ble_eq_true rfl) (sp_198 G o2 ?_)
    show mx_wp (d + 2) 275 44 [some (.ref 381), w1, some (.int i2), some (.int i3), some (.int i4), some (.int i5)] [.int (V_198 (mx_i h 382) i5 (3 : Int32))] h Q
    refine wp_steps (i' := 45) (ls' := [some (.ref 381), w1, some (.int i2), some (.int i3), some (.int i4), some (.int i5)]) (st' := [.int 2, .int (V_198 (mx_i h 382) i5 (3 : Int32))]) (h' := h) (P := True) 1 rfl rfl trivial ?_
    have J : ∀ (v3 : Int32) (ev3 : v3 = ((if (V_198 (mx_i h 382) i5 (3 : Int32)) < 2 then (if (V_194 (mx_i h 382) i3 (V_198 (mx_i h 382) i5 (0 : Int32))) = 0 then i3 else (i3 ||| ((1 : Int32) <<< ((V_198 (mx_i h 382) i5 (1 : Int32)) &&& 31)))) else i3) : Int32)), mx_wp (d + 2) 275 62 [some (.ref 381), w1, some (.int i2), some (.int v3), some (.int i4), some (.int i5)] [] h Q := by
      intro v3 ev3
      have H := H.2 v3 ev3
      refine wp_steps (i' := 63) (ls' := [some (.ref 381), w1, some (.int i2), some (.int v3), some (.int i4), some (.int (i5 + 1))]) (st' := []) (h' := h) (P := True) 1 rfl rfl trivial ?_
      refine wp_J (j := 34) (st' := []) rfl rfl ?_
      exact H _
    have H := H.1
    refine wp_br (P := True) (c := 2 ≤ (V_198 (mx_i h 382) i5 (3 : Int32))) (t := 62) (st' := []) rfl rfl trivial (fun c4 => ?_) (fun c4 => ?_)
    · have c4 := Int32.not_lt.mpr c4
      exact J _ (by rw [if_neg c4])
    · have c4 := Int32.not_le.mp c4
      have H := H.1 c4
      refine wp_steps (i' := 50) (ls' := [some (.ref 381), w1, some (.int i2), some (.int i3), some (.int i4), some (.int i5)]) (st' := [.int 0, .int i5, .ref 381, .int i3]) (h' := h) (P := True) 4 rfl rfl trivial ?_
      obtain ⟨o5, H⟩ := H
      refine wp_call (b := false) (y' := 198) (as := [.ref 381, .int i5, .int 0]) (rest := [.int i3]) (P := ((mxT 381).1 = mxRc 198 ∧ mxG h)) rfl (by with_unfolding_all rfl) ⟨(congrArg Prod.fst sT_381), G⟩ (Nat.le_of_ble_eq_true rfl) (sp_198 G o5 ?_)
      show mx_wp (d + 2) 275 51 [some (.ref 381), w1, some (.int i2), some (.int i3), some (.int i4), some (.int i5)] [.int (V_198 (mx_i h 382) i5 (0 : Int32)), .int i3] h Q
      refine wp_call (b := false) (y' := 194) (as := [.int i3, .int (V_198 (mx_i h 382) i5 (0 : Int32))]) (rest := []) (P := True) rfl (by with_unfolding_all rfl) trivial (Nat.le_of_ble_eq_true rfl) (sp_194 G ?_)
      show mx_wp (d + 2) 275 52 [some (.ref 381), w1, some (.int i2), some (.int i3), some (.int i4), some (.int i5)] [.int (V_194 (mx_i h 382) i3 (V_198 (mx_i h 382) i5 (0 : Int32)))] h Q
      refine wp_br (P := True) (c := (V_194 (mx_i h 382) i3 (V_198 (mx_i h 382) i5 (0 : Int32))) = 0) (t := 62) (st' := []) rfl rfl trivial (fun c6 => ?_) (fun c6 => ?_)
      · skip
        exact J _ (by rw [if_pos c4, if_pos c6])
      · skip
        have H := H.2 c6
        refine wp_steps (i' := 58) (ls' := [some (.ref 381), w1, some (.int i2), some (.int i3), some (.int i4), some (.int i5)]) (st' := [.int 1, .int i5, .ref 381, .int 1, .int i3]) (h' := h) (P := True) 5 rfl rfl trivial ?_
        obtain ⟨o7, H⟩ := H
        refine wp_call (b := false) (y' := 198) (as := [.ref 381, .int i5, .int 1]) (rest := [.int 1, .int i3]) (P := ((mxT 381).1 = mxRc 198 ∧ mxG h)) rfl (by with_unfolding_all rfl) ⟨(congrArg Prod.fst sT_381), G⟩ (Nat.le_of_ble_eq_true rfl) (sp_198 G o7 ?_)
        show mx_wp (d + 2) 275 59 [some (.ref 381), w1, some (.int i2), some (.int i3), some (.int i4), some (.int i5)] [.int (V_198 (mx_i h 382) i5 (1 : Int32)), .int 1, .int i3] h Q
        refine wp_steps (i' := 62) (ls' := [some (.ref 381), w1, some (.int i2), some (.int (i3 ||| ((1 : Int32) <<< ((V_198 (mx_i h 382) i5 (1 : Int32)) &&& 31)))), some (.int i4), some (.int i5)]) (st' := []) (h' := h) (P := True) 3 rfl rfl trivial ?_
        exact J _ (by rw [if_pos c4, if_neg c6])
def F_275_34 (r : Nat → Int32) (i2 : Int32) (i4 : Int32) (z : Nat) (s : Int32) : Int32 := ((if (V_198 (r) (nI z) (3 : Int32)) < 2 then (if (V_194 (r) s (V_198 (r) (nI z) (0 : Int32))) = 0 then s else (s ||| ((1 : Int32) <<< ((V_198 (r) (nI z) (1 : Int32)) &&& 31)))) else s) : Int32)
theorem lp_275_34 {d : Nat} {h : mxH} {Q : mxO → mxH → Prop} {i2 : Int32} {i4 : Int32} {s0 : Int32} {n : Nat} (z0 : Nat) (G : mxG h)  (hB : (mx_i h 382 4) = nI n) (hn : n < 2147483648) (hz : z0 ≤ n) (ob : ∀ z, z0 ≤ z → z < n → (vp_in ((69 + (6 * (nI z))) + (3 : Int32)) 769 ∧ ((((V_198 (mx_i h 382) (nI z) (3 : Int32)) < 2 → (vp_in ((69 + (6 * (nI z))) + (0 : Int32)) 769 ∧ (((V_194 (mx_i h 382) (fz (F_275_34 (mx_i h 382) i2 i4) z0 z s0) (V_198 (mx_i h 382) (nI z) (0 : Int32))) = 0 → True) ∧ (¬ (V_194 (mx_i h 382) (fz (F_275_34 (mx_i h 382) i2 i4) z0 z s0) (V_198 (mx_i h 382) (nI z) (0 : Int32))) = 0 → (vp_in ((69 + (6 * (nI z))) + (1 : Int32)) 769 ∧ True))))) ∧ (¬ (V_198 (mx_i h 382) (nI z) (3 : Int32)) < 2 → True)) ∧ True))) (k : H_275_29 (d + 2) h i2 (fz (F_275_34 (mx_i h 382) i2 i4) z0 n s0) (i4 + 1) Q) : H_275_34 (d + 2) h i2 s0 i4 (nI z0) Q := by
  have L : ∀ (j z : Nat), z0 ≤ z → z + j = n → H_275_34 (d + 2) h i2 (fz (F_275_34 (mx_i h 382) i2 i4) z0 z s0) i4 (nI z) Q := by
    intro j
    induction j with
    | zero =>
      intro z hz0 hzn
      have hzn : z = n := by omega
      subst hzn
      refine tr_275_34 G  ⟨fun c9 => absurd (hB ▸ c9) Int32.lt_irrefl, fun c9 => k⟩
    | succ j ih =>
      intro z hz0 hzn
      have hih := ih (z + 1) (by omega) (by omega)
      rw [nI_succ, fz_s hz0] at hih
      have hob := ob z hz0 (by omega)
      refine tr_275_34 G  ⟨fun c9 => ?_, fun c9 => absurd (hB.symm ▸ nI_lt (by omega) hn) c9⟩
      obtain ⟨q0, hob⟩ := hob
      refine ⟨q0, ?_⟩
      obtain ⟨q0, hob⟩ := hob
      refine ⟨q0, ?_⟩
      intro v3 ev3
      subst ev3
      exact hih
  have L0 := L (n - z0) z0 (Nat.le_refl _) (by omega)
  simp only [fz_0] at L0
  exact L0
/-! 276: StoneBacksModel.lenderHas(III)I -/
set_option maxRecDepth 8000 in
theorem tr_276_0 {d : Nat} {h : mxH} {Q : mxO → mxH → Prop} {i0 : Int32} {i1 : Int32} {i2 : Int32} (G : mxG h)  (H : (∀ (v1 : Int32), v1 = ((if i1 = 0 then i0 else (i0 / 2)) : Int32) → (∀ (v2 : Int32), v2 = ((if i2 = 0 then v1 else (-v1)) : Int32) → Q (.inl (some (.int v2))) h))) : mx_wp d 276 0 (mx_fr 276 [.int i0, .int i1, .int i2]) [] h Q := by
  show mx_wp d 276 0 [some (.int i0), some (.int i1), some (.int i2), none] [] h Q
  refine wp_steps (i' := 1) (ls' := [some (.int i0), some (.int i1), some (.int i2), none]) (st' := [.int i1]) (h' := h) (P := True) 1 rfl rfl trivial ?_
  have J : ∀ (v1 : Int32) (ev1 : v1 = ((if i1 = 0 then i0 else (i0 / 2)) : Int32)), mx_wp d 276 7 [some (.int i0), some (.int i1), some (.int i2), none] [.int v1] h Q := by
    intro v1 ev1
    have H := H v1 ev1
    refine wp_steps (i' := 9) (ls' := [some (.int i0), some (.int i1), some (.int i2), some (.int v1)]) (st' := [.int i2]) (h' := h) (P := True) 2 rfl rfl trivial ?_
    have J : ∀ (v2 : Int32) (ev2 : v2 = ((if i2 = 0 then v1 else (-v1)) : Int32)), mx_wp d 276 14 [some (.int i0), some (.int i1), some (.int i2), some (.int v1)] [.int v2] h Q := by
      intro v2 ev2
      have H := H v2 ev2
      exact wp_end (o := .inl (some (.int v2))) (h' := h) (P := True) rfl rfl trivial H
    refine wp_br (P := True) (c := ¬ i2 = 0) (t := 12) (st' := []) rfl rfl trivial (fun c3 => ?_) (fun c3 => ?_)
    · skip
      refine wp_steps (i' := 14) (ls' := [some (.int i0), some (.int i1), some (.int i2), some (.int v1)]) (st' := [.int (-v1)]) (h' := h) (P := True) 2 rfl rfl trivial ?_
      exact J _ (by rw [if_neg c3])
    · have c3 := Decidable.of_not_not c3
      refine wp_steps (i' := 11) (ls' := [some (.int i0), some (.int i1), some (.int i2), some (.int v1)]) (st' := [.int v1]) (h' := h) (P := True) 1 rfl rfl trivial ?_
      refine wp_J (j := 14) (st' := [.int v1]) rfl rfl ?_
      exact J _ (by rw [if_pos c3])
  refine wp_br (P := True) (c := ¬ i1 = 0) (t := 4) (st' := []) rfl rfl trivial (fun c4 => ?_) (fun c4 => ?_)
  · skip
    refine wp_steps (i' := 7) (ls' := [some (.int i0), some (.int i1), some (.int i2), none]) (st' := [.int (i0 / 2)]) (h' := h) (P := (¬ (2 : Int32) = 0) ∧ True) 3 rfl rfl ⟨(by decide), trivial⟩ ?_
    exact J _ (by rw [if_neg c4])
  · have c4 := Decidable.of_not_not c4
    refine wp_steps (i' := 3) (ls' := [some (.int i0), some (.int i1), some (.int i2), none]) (st' := [.int i0]) (h' := h) (P := True) 1 rfl rfl trivial ?_
    refine wp_J (j := 7) (st' := [.int i0]) rfl rfl ?_
    exact J _ (by rw [if_pos c4])
def V_276 (r : Nat → Int32) (i0 : Int32) (i1 : Int32) (i2 : Int32) : Int32 := ((if i2 = 0 then ((if i1 = 0 then i0 else (i0 / 2)) : Int32) else (-((if i1 = 0 then i0 else (i0 / 2)) : Int32))) : Int32)
theorem sp_276 {d : Nat} {h : mxH} {Q : mxO → mxH → Prop} {i0 : Int32} {i1 : Int32} {i2 : Int32} (G : mxG h)  (k : Q (.inl (some (.int (V_276 (mx_i h 382) i0 i1 i2)))) h) : mx_wp d 276 0 (mx_fr 276 [.int i0, .int i1, .int i2]) [] h Q := by
  unfold V_276 at k
  refine tr_276_0 G  ?_
  intro v1 ev1
  subst ev1
  intro v2 ev2
  subst ev2
  exact k
/-! 277: StoneBacksModel.debtorHas(IIII)I -/
set_option maxRecDepth 8000 in
theorem tr_277_0 {d : Nat} {h : mxH} {Q : mxO → mxH → Prop} {i1 : Int32} {i2 : Int32} {i3 : Int32} {i4 : Int32} (G : mxG h)  (H : (((i4 = 1 → True) ∧ (¬ i4 = 1 → (vp_in ((33 + (6 * i1)) + (1 : Int32)) 769 ∧ (cB (mx_i h 382 4) 10 ∧ True)))) ∧ (∀ (v1 : Int32), v1 = ((if i4 = 1 then (-10) else (if i3 = 0 then (((V_196 (mx_i h 382) i1 (1 : Int32)) - (V_205 (mx_i h 382) i1)) - i2) else (((V_196 (mx_i h 382) i1 (1 : Int32)) - (V_205 (mx_i h 382) i1)) - (i2 / 2)))) : Int32) → Q (.inl (some (.int v1))) h))) : mx_wp (d + 3) 277 0 (mx_fr 277 [.ref 381, .int i1, .int i2, .int i3, .int i4]) [] h Q := by
  show mx_wp (d + 3) 277 0 [some (.ref 381), some (.int i1), some (.int i2), some (.int i3), some (.int i4)] [] h Q
  refine wp_steps (i' := 2) (ls' := [some (.ref 381), some (.int i1), some (.int i2), some (.int i3), some (.int i4)]) (st' := [.int 1, .int i4]) (h' := h) (P := True) 2 rfl rfl trivial ?_
  have J : ∀ (v1 : Int32) (ev1 : v1 = ((if i4 = 1 then (-10) else (if i3 = 0 then (((V_196 (mx_i h 382) i1 (1 : Int32)) - (V_205 (mx_i h 382) i1)) - i2) else (((V_196 (mx_i h 382) i1 (1 : Int32)) - (V_205 (mx_i h 382) i1)) - (i2 / 2)))) : Int32)), mx_wp (d + 3) 277 21 [some (.ref 381), some (.int i1), some (.int i2), some (.int i3), some (.int i4)] [.int v1] h Q := by
    intro v1 ev1
    have H := H.2 v1 ev1
    exact wp_end (o := .inl (some (.int v1))) (h' := h) (P := True) rfl rfl trivial H
  have H := H.1
  refine wp_br (P := True) (c := ¬ i4 = 1) (t := 5) (st' := []) rfl rfl trivial (fun c2 => ?_) (fun c2 => ?_)
  · skip
    have H := H.2 c2
    refine wp_steps (i' := 8) (ls' := [some (.ref 381), some (.int i1), some (.int i2), some (.int i3), some (.int i4)]) (st' := [.int 1, .int i1, .ref 381]) (h' := h) (P := True) 3 rfl rfl trivial ?_
    obtain ⟨o3, H⟩ := H
    refine wp_call (b := false) (y' := 196) (as := [.ref 381, .int i1, .int 1]) (rest := []) (P := ((mxT 381).1 = mxRc 196 ∧ mxG h)) rfl (by with_unfolding_all rfl) ⟨(congrArg Prod.fst sT_381), G⟩ (Nat.le_of_ble_eq_true rfl) (sp_196 G o3 ?_)
    show mx_wp (d + 3) 277 9 [some (.ref 381), some (.int i1), some (.int i2), some (.int i3), some (.int i4)] [.int (V_196 (mx_i h 382) i1 (1 : Int32))] h Q
    refine wp_steps (i' := 11) (ls' := [some (.ref 381), some (.int i1), some (.int i2), some (.int i3), some (.int i4)]) (st' := [.int i1, .ref 381, .int (V_196 (mx_i h 382) i1 (1 : Int32))]) (h' := h) (P := True) 2 rfl rfl trivial ?_
    obtain ⟨o4, H⟩ := H
    refine wp_call (b := false) (y' := 205) (as := [.ref 381, .int i1]) (rest := [.int (V_196 (mx_i h 382) i1 (1 : Int32))]) (P := ((mxT 381).1 = mxRc 205 ∧ mxG h)) rfl (by with_unfolding_all rfl) ⟨(congrArg Prod.fst sT_381), G⟩ (Nat.le_of_ble_eq_true rfl) (sp_205 G o4 ?_)
    show mx_wp (d + 3) 277 12 [some (.ref 381), some (.int i1), some (.int i2), some (.int i3), some (.int i4)] [.int (V_205 (mx_i h 382) i1), .int (V_196 (mx_i h 382) i1 (1 : Int32))] h Q
    refine wp_steps (i' := 14) (ls' := [some (.ref 381), some (.int i1), some (.int i2), some (.int i3), some (.int i4)]) (st' := [.int i3, .int ((V_196 (mx_i h 382) i1 (1 : Int32)) - (V_205 (mx_i h 382) i1))]) (h' := h) (P := True) 2 rfl rfl trivial ?_
    refine wp_br (P := True) (c := ¬ i3 = 0) (t := 17) (st' := [.int ((V_196 (mx_i h 382) i1 (1 : Int32)) - (V_205 (mx_i h 382) i1))]) rfl rfl trivial (fun c5 => ?_) (fun c5 => ?_)
    · skip
      refine wp_steps (i' := 21) (ls' := [some (.ref 381), some (.int i1), some (.int i2), some (.int i3), some (.int i4)]) (st' := [.int (((V_196 (mx_i h 382) i1 (1 : Int32)) - (V_205 (mx_i h 382) i1)) - (i2 / 2))]) (h' := h) (P := (¬ (2 : Int32) = 0) ∧ True) 4 rfl rfl ⟨(by decide), trivial⟩ ?_
      exact J _ (by rw [if_neg c2, if_neg c5])
    · have c5 := Decidable.of_not_not c5
      refine wp_steps (i' := 16) (ls' := [some (.ref 381), some (.int i1), some (.int i2), some (.int i3), some (.int i4)]) (st' := [.int i2, .int ((V_196 (mx_i h 382) i1 (1 : Int32)) - (V_205 (mx_i h 382) i1))]) (h' := h) (P := True) 1 rfl rfl trivial ?_
      refine wp_J (j := 20) (st' := [.int i2, .int ((V_196 (mx_i h 382) i1 (1 : Int32)) - (V_205 (mx_i h 382) i1))]) rfl rfl ?_
      refine wp_steps (i' := 21) (ls' := [some (.ref 381), some (.int i1), some (.int i2), some (.int i3), some (.int i4)]) (st' := [.int (((V_196 (mx_i h 382) i1 (1 : Int32)) - (V_205 (mx_i h 382) i1)) - i2)]) (h' := h) (P := True) 1 rfl rfl trivial ?_
      exact J _ (by rw [if_neg c2, if_pos c5])
  · have c2 := Decidable.of_not_not c2
    refine wp_steps (i' := 4) (ls' := [some (.ref 381), some (.int i1), some (.int i2), some (.int i3), some (.int i4)]) (st' := [.int (-10)]) (h' := h) (P := True) 1 rfl rfl trivial ?_
    refine wp_J (j := 21) (st' := [.int (-10)]) rfl rfl ?_
    exact J _ (by rw [if_pos c2])
def V_277 (r : Nat → Int32) (i1 : Int32) (i2 : Int32) (i3 : Int32) (i4 : Int32) : Int32 := ((if i4 = 1 then (-10) else (if i3 = 0 then (((V_196 (r) i1 (1 : Int32)) - (V_205 (r) i1)) - i2) else (((V_196 (r) i1 (1 : Int32)) - (V_205 (r) i1)) - (i2 / 2)))) : Int32)
theorem sp_277 {d : Nat} {h : mxH} {Q : mxO → mxH → Prop} {i1 : Int32} {i2 : Int32} {i3 : Int32} {i4 : Int32} (G : mxG h)  (x0 : ((i4 = 1 → True) ∧ (¬ i4 = 1 → (vp_in ((33 + (6 * i1)) + (1 : Int32)) 769 ∧ (cB (mx_i h 382 4) 10 ∧ True))))) (k : Q (.inl (some (.int (V_277 (mx_i h 382) i1 i2 i3 i4)))) h) : mx_wp (d + 3) 277 0 (mx_fr 277 [.ref 381, .int i1, .int i2, .int i3, .int i4]) [] h Q := by
  unfold V_277 at k
  have hob : (((i4 = 1 → True) ∧ (¬ i4 = 1 → (vp_in ((33 + (6 * i1)) + (1 : Int32)) 769 ∧ (cB (mx_i h 382 4) 10 ∧ True)))) ∧ True) := ⟨x0, trivial⟩
  refine tr_277_0 G  ?_
  obtain ⟨q0, hob⟩ := hob
  refine ⟨q0, ?_⟩
  intro v1 ev1
  subst ev1
  exact k
/-! 278: StoneBacksModel.rests(III)I -/
def H_278_32 (d : Nat) (h : mxH) (i2 : Int32) (i3 : Int32) (i4 : Int32) (i5 : Int32) (Q : mxO → mxH → Prop) : Prop := ∀ (w1 : Option Value) (w6 : Option Value) (w7 : Option Value), mx_wp d 278 32 [some (.ref 381), w1, some (.int i2), some (.int i3), some (.int i4), some (.int i5), w6, w7] [] h Q
set_option maxRecDepth 8000 in
theorem tr_278_0 {d : Nat} {h : mxH} {Q : mxO → mxH → Prop} {i1 : Int32} {i2 : Int32} {i3 : Int32} (G : mxG h)  (H : (((V_191 (mx_i h 382) i1 (0 : Int32) ((mx_i h 382 3) - 1)) = 0 ∨ (V_191 (mx_i h 382) i1 (0 : Int32) ((mx_i h 382 3) - 1)) = 1) ∧ ((((V_200 (mx_i h 382) i1) = 0 → True) ∧ (¬ (V_200 (mx_i h 382) i1) = 0 → (((V_191 (mx_i h 382) i2 (0 : Int32) ((mx_i h 382 3) - 1)) = 0 ∨ (V_191 (mx_i h 382) i2 (0 : Int32) ((mx_i h 382 3) - 1)) = 1) ∧ True))) ∧ (∀ (v2 : Int32), v2 = ((if (V_200 (mx_i h 382) i1) = 0 then 1 else (if (V_200 (mx_i h 382) i2) = 0 then 1 else (if i1 = i2 then 2 else (if (V_191 (mx_i h 382) i3 (1 : Int32) (40 : Int32)) = 0 then 2 else 0)))) : Int32) → (∀ h3, h3 = mx_wi h 381 0 v2 → ((0 < (mx_i h3 381 0) → Q (.inl (some (.int 0))) h3) ∧ (¬ 0 < (mx_i h3 381 0) → H_278_32 (d + 4) h3 i2 i3 0 0 Q))))))) : mx_wp (d + 4) 278 0 (mx_fr 278 [.ref 381, .int i1, .int i2, .int i3]) [] h Q := by
  show mx_wp (d + 4) 278 0 [some (.ref 381), some (.int i1), some (.int i2), some (.int i3), none, none, none, none] [] h Q
  refine wp_steps (i' := 3) (ls' := [some (.ref 381), some (.int i1), some (.int i2), some (.int i3), none, none, none, none]) (st' := [.int i1, .ref 381, .ref 381]) (h' := h) (P := True) 3 rfl rfl trivial ?_
  obtain ⟨o1, H⟩ := H
  refine wp_call (b := false) (y' := 200) (as := [.ref 381, .int i1]) (rest := [.ref 381]) (P := ((mxT 381).1 = mxRc 200 ∧ mxG h)) rfl (by with_unfolding_all rfl) ⟨(congrArg Prod.fst sT_381), G⟩ (Nat.le_of_ble_eq_true rfl) (sp_200 G o1 ?_)
  show mx_wp (d + 4) 278 4 [some (.ref 381), some (.int i1), some (.int i2), some (.int i3), none, none, none, none] [.int (V_200 (mx_i h 382) i1), .ref 381] h Q
  have J : ∀ (v2 : Int32) (ev2 : v2 = ((if (V_200 (mx_i h 382) i1) = 0 then 1 else (if (V_200 (mx_i h 382) i2) = 0 then 1 else (if i1 = i2 then 2 else (if (V_191 (mx_i h 382) i3 (1 : Int32) (40 : Int32)) = 0 then 2 else 0)))) : Int32)), mx_wp (d + 4) 278 22 [some (.ref 381), some (.int i1), some (.int i2), some (.int i3), none, none, none, none] [.int v2, .ref 381] h Q := by
    intro v2 ev2
    have H := H.2 v2 ev2
    refine wp_steps (i' := 23) (ls' := [some (.ref 381), some (.int i1), some (.int i2), some (.int i3), none, none, none, none]) (st' := []) (h' := mx_wi h 381 0 v2) (P := ((mxT 381).1 = 11 ∧ mxG h) ∧ True) 1 rfl rfl ⟨⟨(congrArg Prod.fst sT_381), G⟩, trivial⟩ ?_
    obtain ⟨h3, e4⟩ : ∃ z9, z9 = mx_wi h 381 0 v2 := ⟨_, rfl⟩
    rw [← e4]
    have H := H h3 e4
    have G5 : mxG h3 := e4 ▸ mxG_wi G
    refine wp_steps (i' := 25) (ls' := [some (.ref 381), some (.int i1), some (.int i2), some (.int i3), none, none, none, none]) (st' := [.int (mx_i h3 381 0)]) (h' := h3) (P := ((mxT 381).1 = 11 ∧ mxG h3) ∧ True) 2 rfl rfl ⟨⟨(congrArg Prod.fst sT_381), G5⟩, trivial⟩ ?_
    refine wp_br (P := True) (c := (mx_i h3 381 0) ≤ 0) (t := 28) (st' := []) rfl rfl trivial (fun c6 => ?_) (fun c6 => ?_)
    · have c6 := Int32.not_lt.mpr c6
      have H := H.2 c6
      refine wp_steps (i' := 32) (ls' := [some (.ref 381), some (.int i1), some (.int i2), some (.int i3), some (.int 0), some (.int 0), none, none]) (st' := []) (h' := h3) (P := True) 4 rfl rfl trivial ?_
      exact H _ _ _
    · have c6 := Int32.not_le.mp c6
      have H := H.1 c6
      refine wp_steps (i' := 27) (ls' := [some (.ref 381), some (.int i1), some (.int i2), some (.int i3), none, none, none, none]) (st' := [.int 0]) (h' := h3) (P := True) 1 rfl rfl trivial ?_
      exact wp_end (o := .inl (some (.int 0))) (h' := h3) (P := True) rfl rfl trivial H
  have H := H.1
  refine wp_br (P := True) (c := (V_200 (mx_i h 382) i1) = 0) (t := 9) (st' := [.ref 381]) rfl rfl trivial (fun c7 => ?_) (fun c7 => ?_)
  · skip
    refine wp_steps (i' := 10) (ls' := [some (.ref 381), some (.int i1), some (.int i2), some (.int i3), none, none, none, none]) (st' := [.int 1, .ref 381]) (h' := h) (P := True) 1 rfl rfl trivial ?_
    refine wp_J (j := 22) (st' := [.int 1, .ref 381]) rfl rfl ?_
    exact J _ (by rw [if_pos c7])
  · skip
    have H := H.2 c7
    refine wp_steps (i' := 7) (ls' := [some (.ref 381), some (.int i1), some (.int i2), some (.int i3), none, none, none, none]) (st' := [.int i2, .ref 381, .ref 381]) (h' := h) (P := True) 2 rfl rfl trivial ?_
    obtain ⟨o8, H⟩ := H
    refine wp_call (b := false) (y' := 200) (as := [.ref 381, .int i2]) (rest := [.ref 381]) (P := ((mxT 381).1 = mxRc 200 ∧ mxG h)) rfl (by with_unfolding_all rfl) ⟨(congrArg Prod.fst sT_381), G⟩ (Nat.le_of_ble_eq_true rfl) (sp_200 G o8 ?_)
    show mx_wp (d + 4) 278 8 [some (.ref 381), some (.int i1), some (.int i2), some (.int i3), none, none, none, none] [.int (V_200 (mx_i h 382) i2), .ref 381] h Q
    refine wp_br (P := True) (c := ¬ (V_200 (mx_i h 382) i2) = 0) (t := 11) (st' := [.ref 381]) rfl rfl trivial (fun c9 => ?_) (fun c9 => ?_)
    · skip
      refine wp_steps (i' := 13) (ls' := [some (.ref 381), some (.int i1), some (.int i2), some (.int i3), none, none, none, none]) (st' := [.int i2, .int i1, .ref 381]) (h' := h) (P := True) 2 rfl rfl trivial ?_
      refine wp_br (P := True) (c := i1 = i2) (t := 19) (st' := [.ref 381]) rfl rfl trivial (fun c10 => ?_) (fun c10 => ?_)
      · skip
        refine wp_steps (i' := 20) (ls' := [some (.ref 381), some (.int i1), some (.int i2), some (.int i3), none, none, none, none]) (st' := [.int 2, .ref 381]) (h' := h) (P := True) 1 rfl rfl trivial ?_
        refine wp_J (j := 22) (st' := [.int 2, .ref 381]) rfl rfl ?_
        exact J _ (by rw [if_neg c7, if_neg c9, if_pos c10])
      · skip
        refine wp_steps (i' := 17) (ls' := [some (.ref 381), some (.int i1), some (.int i2), some (.int i3), none, none, none, none]) (st' := [.int 40, .int 1, .int i3, .ref 381]) (h' := h) (P := True) 3 rfl rfl trivial ?_
        refine wp_call (b := false) (y' := 191) (as := [.int i3, .int 1, .int 40]) (rest := [.ref 381]) (P := True) rfl (by with_unfolding_all rfl) trivial (Nat.le_of_ble_eq_true rfl) (sp_191 G ?_)
        show mx_wp (d + 4) 278 18 [some (.ref 381), some (.int i1), some (.int i2), some (.int i3), none, none, none, none] [.int (V_191 (mx_i h 382) i3 (1 : Int32) (40 : Int32)), .ref 381] h Q
        refine wp_br (P := True) (c := ¬ (V_191 (mx_i h 382) i3 (1 : Int32) (40 : Int32)) = 0) (t := 21) (st' := [.ref 381]) rfl rfl trivial (fun c11 => ?_) (fun c11 => ?_)
        · skip
          refine wp_steps (i' := 22) (ls' := [some (.ref 381), some (.int i1), some (.int i2), some (.int i3), none, none, none, none]) (st' := [.int 0, .ref 381]) (h' := h) (P := True) 1 rfl rfl trivial ?_
          exact J _ (by rw [if_neg c7, if_neg c9, if_neg c10, if_neg c11])
        · have c11 := Decidable.of_not_not c11
          refine wp_steps (i' := 20) (ls' := [some (.ref 381), some (.int i1), some (.int i2), some (.int i3), none, none, none, none]) (st' := [.int 2, .ref 381]) (h' := h) (P := True) 1 rfl rfl trivial ?_
          refine wp_J (j := 22) (st' := [.int 2, .ref 381]) rfl rfl ?_
          exact J _ (by rw [if_neg c7, if_neg c9, if_neg c10, if_pos c11])
    · have c9 := Decidable.of_not_not c9
      refine wp_steps (i' := 10) (ls' := [some (.ref 381), some (.int i1), some (.int i2), some (.int i3), none, none, none, none]) (st' := [.int 1, .ref 381]) (h' := h) (P := True) 1 rfl rfl trivial ?_
      refine wp_J (j := 22) (st' := [.int 1, .ref 381]) rfl rfl ?_
      exact J _ (by rw [if_neg c7, if_pos c9])
set_option maxRecDepth 8000 in
theorem tr_278_32 {d : Nat} {h : mxH} {Q : mxO → mxH → Prop}  {i2 : Int32} {i3 : Int32} {i4 : Int32} {i5 : Int32} (G : mxG h)  (H : ((i5 < 4 → ((((V_276 (mx_i h 382) i3 (i5 / 2) (i5 - i5 / 2 * 2)) < (V_276 (mx_i h 382) i3 (1 - (i5 / 2)) (i5 - i5 / 2 * 2)) → True) ∧ (¬ (V_276 (mx_i h 382) i3 (i5 / 2) (i5 - i5 / 2 * 2)) < (V_276 (mx_i h 382) i3 (1 - (i5 / 2)) (i5 - i5 / 2 * 2)) → ((((1 - (i5 - i5 / 2 * 2)) = 1 → True) ∧ (¬ (1 - (i5 - i5 / 2 * 2)) = 1 → (vp_in ((33 + (6 * i2)) + (1 : Int32)) 769 ∧ (cB (mx_i h 382 4) 10 ∧ True)))) ∧ ((((i5 - i5 / 2 * 2) = 1 → True) ∧ (¬ (i5 - i5 / 2 * 2) = 1 → (vp_in ((33 + (6 * i2)) + (1 : Int32)) 769 ∧ (cB (mx_i h 382 4) 10 ∧ True)))) ∧ True)))) ∧ (∀ (v2 : Int32), v2 = ((if (V_276 (mx_i h 382) i3 (i5 / 2) (i5 - i5 / 2 * 2)) < (V_276 (mx_i h 382) i3 (1 - (i5 / 2)) (i5 - i5 / 2 * 2)) then i4 else (if (V_277 (mx_i h 382) i2 i3 (i5 / 2) (i5 - i5 / 2 * 2)) < (V_277 (mx_i h 382) i2 i3 (i5 / 2) (1 - (i5 - i5 / 2 * 2))) then i4 else (i4 ||| ((1 : Int32) <<< (i5 &&& 31))))) : Int32) → H_278_32 (d + 4) h i2 i3 v2 (i5 + 1) Q))) ∧ (¬ i5 < 4 → Q (.inl (some (.int i4))) h))) : H_278_32 (d + 4) h i2 i3 i4 i5 Q := by
  intro w1 w6 w7
  show mx_wp (d + 4) 278 32 [some (.ref 381), w1, some (.int i2), some (.int i3), some (.int i4), some (.int i5), w6, w7] [] h Q
  refine wp_steps (i' := 34) (ls' := [some (.ref 381), w1, some (.int i2), some (.int i3), some (.int i4), some (.int i5), w6, w7]) (st' := [.int 4, .int i5]) (h' := h) (P := True) 2 rfl rfl trivial ?_
  refine wp_br (P := True) (c := 4 ≤ i5) (t := 77) (st' := []) rfl rfl trivial (fun c1 => ?_) (fun c1 => ?_)
  · have c1 := Int32.not_lt.mpr c1
    have H := H.2 c1
    refine wp_steps (i' := 78) (ls' := [some (.ref 381), w1, some (.int i2), some (.int i3), some (.int i4), some (.int i5), w6, w7]) (st' := [.int i4]) (h' := h) (P := True) 1 rfl rfl trivial ?_
    exact wp_end (o := .inl (some (.int i4))) (h' := h) (P := True) rfl rfl trivial H
  · have c1 := Int32.not_le.mp c1
    have H := H.1 c1
    refine wp_steps (i' := 48) (ls' := [some (.ref 381), w1, some (.int i2), some (.int i3), some (.int i4), some (.int i5), some (.int (i5 / 2)), some (.int (i5 - i5 / 2 * 2))]) (st' := [.int (i5 - i5 / 2 * 2), .int (1 - (i5 / 2)), .int i3]) (h' := h) (P := (¬ (2 : Int32) = 0) ∧ (¬ (2 : Int32) = 0) ∧ True) 13 rfl rfl ⟨(by decide), (by decide), trivial⟩ ?_
    refine wp_call (b := false) (y' := 276) (as := [.int i3, .int (1 - (i5 / 2)), .int (i5 - i5 / 2 * 2)]) (rest := []) (P := True) rfl (by with_unfolding_all rfl) trivial (Nat.le_of_ble_eq_true rfl) (sp_276 G ?_)
    show mx_wp (d + 4) 278 49 [some (.ref 381), w1, some (.int i2), some (.int i3), some (.int i4), some (.int i5), some (.int (i5 / 2)), some (.int (i5 - i5 / 2 * 2))] [.int (V_276 (mx_i h 382) i3 (1 - (i5 / 2)) (i5 - i5 / 2 * 2))] h Q
    refine wp_steps (i' := 52) (ls' := [some (.ref 381), w1, some (.int i2), some (.int i3), some (.int i4), some (.int i5), some (.int (i5 / 2)), some (.int (i5 - i5 / 2 * 2))]) (st' := [.int (i5 - i5 / 2 * 2), .int (i5 / 2), .int i3, .int (V_276 (mx_i h 382) i3 (1 - (i5 / 2)) (i5 - i5 / 2 * 2))]) (h' := h) (P := True) 3 rfl rfl trivial ?_
    refine wp_call (b := false) (y' := 276) (as := [.int i3, .int (i5 / 2), .int (i5 - i5 / 2 * 2)]) (rest := [.int (V_276 (mx_i h 382) i3 (1 - (i5 / 2)) (i5 - i5 / 2 * 2))]) (P := True) rfl (by with_unfolding_all rfl) trivial (Nat.le_of_ble_eq_true rfl) (sp_276 G ?_)
    show mx_wp (d + 4) 278 53 [some (.ref 381), w1, some (.int i2), some (.int i3), some (.int i4), some (.int i5), some (.int (i5 / 2)), some (.int (i5 - i5 / 2 * 2))] [.int (V_276 (mx_i h 382) i3 (i5 / 2) (i5 - i5 / 2 * 2)), .int (V_276 (mx_i h 382) i3 (1 - (i5 / 2)) (i5 - i5 / 2 * 2))] h Q
    have J : ∀ (v2 : Int32) (ev2 : v2 = ((if (V_276 (mx_i h 382) i3 (i5 / 2) (i5 - i5 / 2 * 2)) < (V_276 (mx_i h 382) i3 (1 - (i5 / 2)) (i5 - i5 / 2 * 2)) then i4 else (if (V_277 (mx_i h 382) i2 i3 (i5 / 2) (i5 - i5 / 2 * 2)) < (V_277 (mx_i h 382) i2 i3 (i5 / 2) (1 - (i5 - i5 / 2 * 2))) then i4 else (i4 ||| ((1 : Int32) <<< (i5 &&& 31))))) : Int32)), mx_wp (d + 4) 278 75 [some (.ref 381), w1, some (.int i2), some (.int i3), some (.int v2), some (.int i5), some (.int (i5 / 2)), some (.int (i5 - i5 / 2 * 2))] [] h Q := by
      intro v2 ev2
      have H := H.2 v2 ev2
      refine wp_steps (i' := 76) (ls' := [some (.ref 381), w1, some (.int i2), some (.int i3), some (.int v2), some (.int (i5 + 1)), some (.int (i5 / 2)), some (.int (i5 - i5 / 2 * 2))]) (st' := []) (h' := h) (P := True) 1 rfl rfl trivial ?_
      refine wp_J (j := 32) (st' := []) rfl rfl ?_
      exact H _ _ _
    have H := H.1
    refine wp_br (P := True) (c := (V_276 (mx_i h 382) i3 (i5 / 2) (i5 - i5 / 2 * 2)) < (V_276 (mx_i h 382) i3 (1 - (i5 / 2)) (i5 - i5 / 2 * 2))) (t := 75) (st' := []) rfl rfl trivial (fun c3 => ?_) (fun c3 => ?_)
    · skip
      exact J _ (by rw [if_pos c3])
    · skip
      have H := H.2 c3
      refine wp_steps (i' := 61) (ls' := [some (.ref 381), w1, some (.int i2), some (.int i3), some (.int i4), some (.int i5), some (.int (i5 / 2)), some (.int (i5 - i5 / 2 * 2))]) (st' := [.int (1 - (i5 - i5 / 2 * 2)), .int (i5 / 2), .int i3, .int i2, .ref 381]) (h' := h) (P := True) 7 rfl rfl trivial ?_
      obtain ⟨o4, H⟩ := H
      refine wp_call (b := false) (y' := 277) (as := [.ref 381, .int i2, .int i3, .int (i5 / 2), .int (1 - (i5 - i5 / 2 * 2))]) (rest := []) (P := ((mxT 381).1 = mxRc 277 ∧ mxG h)) rfl (by with_unfolding_all rfl) ⟨(congrArg Prod.fst sT_381), G⟩ (Nat.le_of_ble_eq_true rfl) (sp_277 G o4 ?_)
      show mx_wp (d + 4) 278 62 [some (.ref 381), w1, some (.int i2), some (.int i3), some (.int i4), some (.int i5), some (.int (i5 / 2)), some (.int (i5 - i5 / 2 * 2))] [.int (V_277 (mx_i h 382) i2 i3 (i5 / 2) (1 - (i5 - i5 / 2 * 2)))] h Q
      refine wp_steps (i' := 67) (ls' := [some (.ref 381), w1, some (.int i2), some (.int i3), some (.int i4), some (.int i5), some (.int (i5 / 2)), some (.int (i5 - i5 / 2 * 2))]) (st' := [.int (i5 - i5 / 2 * 2), .int (i5 / 2), .int i3, .int i2, .ref 381, .int (V_277 (mx_i h 382) i2 i3 (i5 / 2) (1 - (i5 - i5 / 2 * 2)))]) (h' := h) (P := True) 5 rfl rfl trivial ?_
      obtain ⟨o5, H⟩ := H
      refine wp_call (b := false) (y' := 277) (as := [.ref 381, .int i2, .int i3, .int (i5 / 2), .int (i5 - i5 / 2 * 2)]) (rest := [.int (V_277 (mx_i h 382) i2 i3 (i5 / 2) (1 - (i5 - i5 / 2 * 2)))]) (P := ((mxT 381).1 = mxRc 277 ∧ mxG h)) rfl (by with_unfolding_all rfl) ⟨(congrArg Prod.fst sT_381), G⟩ (Nat.le_of_ble_eq_true rfl) (sp_277 G o5 ?_)
      show mx_wp (d + 4) 278 68 [some (.ref 381), w1, some (.int i2), some (.int i3), some (.int i4), some (.int i5), some (.int (i5 / 2)), some (.int (i5 - i5 / 2 * 2))] [.int (V_277 (mx_i h 382) i2 i3 (i5 / 2) (i5 - i5 / 2 * 2)), .int (V_277 (mx_i h 382) i2 i3 (i5 / 2) (1 - (i5 - i5 / 2 * 2)))] h Q
      refine wp_br (P := True) (c := (V_277 (mx_i h 382) i2 i3 (i5 / 2) (i5 - i5 / 2 * 2)) < (V_277 (mx_i h 382) i2 i3 (i5 / 2) (1 - (i5 - i5 / 2 * 2)))) (t := 75) (st' := []) rfl rfl trivial (fun c6 => ?_) (fun c6 => ?_)
      · skip
        exact J _ (by rw [if_neg c3, if_pos c6])
      · skip
        refine wp_steps (i' := 75) (ls' := [some (.ref 381), w1, some (.int i2), some (.int i3), some (.int (i4 ||| ((1 : Int32) <<< (i5 &&& 31)))), some (.int i5), some (.int (i5 / 2)), some (.int (i5 - i5 / 2 * 2))]) (st' := []) (h' := h) (P := True) 6 rfl rfl trivial ?_
        exact J _ (by rw [if_neg c3, if_neg c6])
def F_278_32 (r : Nat → Int32) (i2 : Int32) (i3 : Int32) (z : Nat) (s : Int32) : Int32 := ((if (V_276 (r) i3 ((nI z) / 2) ((nI z) - (nI z) / 2 * 2)) < (V_276 (r) i3 (1 - ((nI z) / 2)) ((nI z) - (nI z) / 2 * 2)) then s else (if (V_277 (r) i2 i3 ((nI z) / 2) ((nI z) - (nI z) / 2 * 2)) < (V_277 (r) i2 i3 ((nI z) / 2) (1 - ((nI z) - (nI z) / 2 * 2))) then s else (s ||| ((1 : Int32) <<< ((nI z) &&& 31))))) : Int32)
theorem lp_278_32 {d : Nat} {h : mxH} {Q : mxO → mxH → Prop} {i2 : Int32} {i3 : Int32} {s0 : Int32} {n : Nat} (z0 : Nat) (G : mxG h)  (hB : (4 : Int32) = nI n) (hn : n < 2147483648) (hz : z0 ≤ n) (ob : ∀ z, z0 ≤ z → z < n → ((((V_276 (mx_i h 382) i3 ((nI z) / 2) ((nI z) - (nI z) / 2 * 2)) < (V_276 (mx_i h 382) i3 (1 - ((nI z) / 2)) ((nI z) - (nI z) / 2 * 2)) → True) ∧ (¬ (V_276 (mx_i h 382) i3 ((nI z) / 2) ((nI z) - (nI z) / 2 * 2)) < (V_276 (mx_i h 382) i3 (1 - ((nI z) / 2)) ((nI z) - (nI z) / 2 * 2)) → ((((1 - ((nI z) - (nI z) / 2 * 2)) = 1 → True) ∧ (¬ (1 - ((nI z) - (nI z) / 2 * 2)) = 1 → (vp_in ((33 + (6 * i2)) + (1 : Int32)) 769 ∧ (cB (mx_i h 382 4) 10 ∧ True)))) ∧ (((((nI z) - (nI z) / 2 * 2) = 1 → True) ∧ (¬ ((nI z) - (nI z) / 2 * 2) = 1 → (vp_in ((33 + (6 * i2)) + (1 : Int32)) 769 ∧ (cB (mx_i h 382 4) 10 ∧ True)))) ∧ True)))) ∧ True)) (k : Q (.inl (some (.int (fz (F_278_32 (mx_i h 382) i2 i3) z0 n s0)))) h) : H_278_32 (d + 4) h i2 i3 s0 (nI z0) Q := by
  have L : ∀ (j z : Nat), z0 ≤ z → z + j = n → H_278_32 (d + 4) h i2 i3 (fz (F_278_32 (mx_i h 382) i2 i3) z0 z s0) (nI z) Q := by
    intro j
    induction j with
    | zero =>
      intro z hz0 hzn
      have hzn : z = n := by omega
      subst hzn
      refine tr_278_32 G  ⟨fun c9 => absurd (hB ▸ c9) Int32.lt_irrefl, fun c9 => k⟩
    | succ j ih =>
      intro z hz0 hzn
      have hih := ih (z + 1) (by omega) (by omega)
      rw [nI_succ, fz_s hz0] at hih
      have hob := ob z hz0 (by omega)
      refine tr_278_32 G  ⟨fun c9 => ?_, fun c9 => absurd (hB.symm ▸ nI_lt (by omega) hn) c9⟩
      obtain ⟨q0, hob⟩ := hob
      refine ⟨q0, ?_⟩
      intro v2 ev2
      subst ev2
      exact hih
  have L0 := L (n - z0) z0 (Nat.le_refl _) (by omega)
  simp only [fz_0] at L0
  exact L0
/-! 279: StoneBacksModel.sinks(III)I -/
set_option maxRecDepth 8000 in
theorem tr_279_0 {d : Nat} {h : mxH} {Q : mxO → mxH → Prop} {i1 : Int32} {i2 : Int32} {i3 : Int32} (G : mxG h)  (H : (cB (mx_i h 382 4) 10 ∧ (((i3 = (-1) → True) ∧ (¬ i3 = (-1) → (vp_in ((69 + (6 * i3)) + (2 : Int32)) 769 ∧ (vp_in ((69 + (6 * i3)) + (4 : Int32)) 769 ∧ True)))) ∧ (∀ (v2 : Int32), v2 = ((if i3 = (-1) then ((V_205 (mx_i h 382) i1) - (V_205 (mx_i h 382) i2)) else (if (V_198 (mx_i h 382) i3 (4 : Int32)) = i1 then (((V_205 (mx_i h 382) i1) - (V_205 (mx_i h 382) i2)) - ((V_198 (mx_i h 382) i3 (2 : Int32)) - ((V_198 (mx_i h 382) i3 (2 : Int32)) / 2))) else (if (V_198 (mx_i h 382) i3 (4 : Int32)) = i2 then (((V_205 (mx_i h 382) i1) - (V_205 (mx_i h 382) i2)) - (-((V_198 (mx_i h 382) i3 (2 : Int32)) - ((V_198 (mx_i h 382) i3 (2 : Int32)) / 2)))) else (((V_205 (mx_i h 382) i1) - (V_205 (mx_i h 382) i2)) - 0)))) : Int32) → (∀ (v4 : Int32), v4 = ((if 0 < v2 then 0 else (if v2 = 0 then 1 else 2)) : Int32) → Q (.inl (some (.int v4))) h))))) : mx_wp (d + 3) 279 0 (mx_fr 279 [.ref 381, .int i1, .int i2, .int i3]) [] h Q := by
  show mx_wp (d + 3) 279 0 [some (.ref 381), some (.int i1), some (.int i2), some (.int i3), none, none] [] h Q
  refine wp_steps (i' := 2) (ls' := [some (.ref 381), some (.int i1), some (.int i2), some (.int i3), none, none]) (st' := [.int i1, .ref 381]) (h' := h) (P := True) 2 rfl rfl trivial ?_
  obtain ⟨o1, H⟩ := H
  refine wp_call (b := false) (y' := 205) (as := [.ref 381, .int i1]) (rest := []) (P := ((mxT 381).1 = mxRc 205 ∧ mxG h)) rfl (by with_unfolding_all rfl) ⟨(congrArg Prod.fst sT_381), G⟩ (Nat.le_of_ble_eq_true rfl) (sp_205 G o1 ?_)
  show mx_wp (d + 3) 279 3 [some (.ref 381), some (.int i1), some (.int i2), some (.int i3), none, none] [.int (V_205 (mx_i h 382) i1)] h Q
  refine wp_steps (i' := 5) (ls' := [some (.ref 381), some (.int i1), some (.int i2), some (.int i3), none, none]) (st' := [.int i2, .ref 381, .int (V_205 (mx_i h 382) i1)]) (h' := h) (P := True) 2 rfl rfl trivial ?_
  refine wp_call (b := false) (y' := 205) (as := [.ref 381, .int i2]) (rest := [.int (V_205 (mx_i h 382) i1)]) (P := ((mxT 381).1 = mxRc 205 ∧ mxG h)) rfl (by with_unfolding_all rfl) ⟨(congrArg Prod.fst sT_381), G⟩ (Nat.le_of_ble_eq_true rfl) (sp_205 G o1 ?_)
  show mx_wp (d + 3) 279 6 [some (.ref 381), some (.int i1), some (.int i2), some (.int i3), none, none] [.int (V_205 (mx_i h 382) i2), .int (V_205 (mx_i h 382) i1)] h Q
  refine wp_steps (i' := 10) (ls' := [some (.ref 381), some (.int i1), some (.int i2), some (.int i3), some (.int ((V_205 (mx_i h 382) i1) - (V_205 (mx_i h 382) i2))), none]) (st' := [.int (-1), .int i3]) (h' := h) (P := True) 4 rfl rfl trivial ?_
  have J : ∀ (v2 : Int32) (w3 : Option Value) (ev2 : v2 = ((if i3 = (-1) then ((V_205 (mx_i h 382) i1) - (V_205 (mx_i h 382) i2)) else (if (V_198 (mx_i h 382) i3 (4 : Int32)) = i1 then (((V_205 (mx_i h 382) i1) - (V_205 (mx_i h 382) i2)) - ((V_198 (mx_i h 382) i3 (2 : Int32)) - ((V_198 (mx_i h 382) i3 (2 : Int32)) / 2))) else (if (V_198 (mx_i h 382) i3 (4 : Int32)) = i2 then (((V_205 (mx_i h 382) i1) - (V_205 (mx_i h 382) i2)) - (-((V_198 (mx_i h 382) i3 (2 : Int32)) - ((V_198 (mx_i h 382) i3 (2 : Int32)) / 2)))) else (((V_205 (mx_i h 382) i1) - (V_205 (mx_i h 382) i2)) - 0)))) : Int32)), mx_wp (d + 3) 279 44 [some (.ref 381), some (.int i1), some (.int i2), some (.int i3), some (.int v2), w3] [] h Q := by
    intro v2 w3 ev2
    have H := H.2 v2 ev2
    refine wp_steps (i' := 45) (ls' := [some (.ref 381), some (.int i1), some (.int i2), some (.int i3), some (.int v2), w3]) (st' := [.int v2]) (h' := h) (P := True) 1 rfl rfl trivial ?_
    have J : ∀ (v4 : Int32) (ev4 : v4 = ((if 0 < v2 then 0 else (if v2 = 0 then 1 else 2)) : Int32)), mx_wp (d + 3) 279 53 [some (.ref 381), some (.int i1), some (.int i2), some (.int i3), some (.int v2), w3] [.int v4] h Q := by
      intro v4 ev4
      have H := H v4 ev4
      exact wp_end (o := .inl (some (.int v4))) (h' := h) (P := True) rfl rfl trivial H
    refine wp_br (P := True) (c := v2 ≤ 0) (t := 48) (st' := []) rfl rfl trivial (fun c5 => ?_) (fun c5 => ?_)
    · have c5 := Int32.not_lt.mpr c5
      refine wp_steps (i' := 49) (ls' := [some (.ref 381), some (.int i1), some (.int i2), some (.int i3), some (.int v2), w3]) (st' := [.int v2]) (h' := h) (P := True) 1 rfl rfl trivial ?_
      refine wp_br (P := True) (c := ¬ v2 = 0) (t := 52) (st' := []) rfl rfl trivial (fun c6 => ?_) (fun c6 => ?_)
      · skip
        refine wp_steps (i' := 53) (ls' := [some (.ref 381), some (.int i1), some (.int i2), some (.int i3), some (.int v2), w3]) (st' := [.int 2]) (h' := h) (P := True) 1 rfl rfl trivial ?_
        exact J _ (by rw [if_neg c5, if_neg c6])
      · have c6 := Decidable.of_not_not c6
        refine wp_steps (i' := 51) (ls' := [some (.ref 381), some (.int i1), some (.int i2), some (.int i3), some (.int v2), w3]) (st' := [.int 1]) (h' := h) (P := True) 1 rfl rfl trivial ?_
        refine wp_J (j := 53) (st' := [.int 1]) rfl rfl ?_
        exact J _ (by rw [if_neg c5, if_pos c6])
    · have c5 := Int32.not_le.mp c5
      refine wp_steps (i' := 47) (ls' := [some (.ref 381), some (.int i1), some (.int i2), some (.int i3), some (.int v2), w3]) (st' := [.int 0]) (h' := h) (P := True) 1 rfl rfl trivial ?_
      refine wp_J (j := 53) (st' := [.int 0]) rfl rfl ?_
      exact J _ (by rw [if_pos c5])
  have H := H.1
  refine wp_br (P := True) (c := i3 = (-1)) (t := 44) (st' := []) rfl rfl trivial (fun c7 => ?_) (fun c7 => ?_)
  · skip
    exact J _ _ (by rw [if_pos c7])
  · skip
    have H := H.2 c7
    refine wp_steps (i' := 14) (ls' := [some (.ref 381), some (.int i1), some (.int i2), some (.int i3), some (.int ((V_205 (mx_i h 382) i1) - (V_205 (mx_i h 382) i2))), none]) (st' := [.int 2, .int i3, .ref 381]) (h' := h) (P := True) 3 rfl rfl trivial ?_
    obtain ⟨o8, H⟩ := H
    refine wp_call (b := false) (y' := 198) (as := [.ref 381, .int i3, .int 2]) (rest := []) (P := ((mxT 381).1 = mxRc 198 ∧ mxG h)) rfl (by with_unfolding_all rfl) ⟨(congrArg Prod.fst sT_381), G⟩ (Nat.le_of_ble_eq_true rfl) (sp_198 G o8 ?_)
    show mx_wp (d + 3) 279 15 [some (.ref 381), some (.int i1), some (.int i2), some (.int i3), some (.int ((V_205 (mx_i h 382) i1) - (V_205 (mx_i h 382) i2))), none] [.int (V_198 (mx_i h 382) i3 (2 : Int32))] h Q
    refine wp_steps (i' := 18) (ls' := [some (.ref 381), some (.int i1), some (.int i2), some (.int i3), some (.int ((V_205 (mx_i h 382) i1) - (V_205 (mx_i h 382) i2))), none]) (st' := [.int 2, .int i3, .ref 381, .int (V_198 (mx_i h 382) i3 (2 : Int32))]) (h' := h) (P := True) 3 rfl rfl trivial ?_
    refine wp_call (b := false) (y' := 198) (as := [.ref 381, .int i3, .int 2]) (rest := [.int (V_198 (mx_i h 382) i3 (2 : Int32))]) (P := ((mxT 381).1 = mxRc 198 ∧ mxG h)) rfl (by with_unfolding_all rfl) ⟨(congrArg Prod.fst sT_381), G⟩ (Nat.le_of_ble_eq_true rfl) (sp_198 G o8 ?_)
    show mx_wp (d + 3) 279 19 [some (.ref 381), some (.int i1), some (.int i2), some (.int i3), some (.int ((V_205 (mx_i h 382) i1) - (V_205 (mx_i h 382) i2))), none] [.int (V_198 (mx_i h 382) i3 (2 : Int32)), .int (V_198 (mx_i h 382) i3 (2 : Int32))] h Q
    refine wp_steps (i' := 27) (ls' := [some (.ref 381), some (.int i1), some (.int i2), some (.int i3), some (.int ((V_205 (mx_i h 382) i1) - (V_205 (mx_i h 382) i2))), some (.int ((V_198 (mx_i h 382) i3 (2 : Int32)) - ((V_198 (mx_i h 382) i3 (2 : Int32)) / 2)))]) (st' := [.int 4, .int i3, .ref 381, .int ((V_205 (mx_i h 382) i1) - (V_205 (mx_i h 382) i2))]) (h' := h) (P := (¬ (2 : Int32) = 0) ∧ True) 8 rfl rfl ⟨(by decide), trivial⟩ ?_
    obtain ⟨o9, H⟩ := H
    refine wp_call (b := false) (y' := 198) (as := [.ref 381, .int i3, .int 4]) (rest := [.int ((V_205 (mx_i h 382) i1) - (V_205 (mx_i h 382) i2))]) (P := ((mxT 381).1 = mxRc 198 ∧ mxG h)) rfl (by with_unfolding_all rfl) ⟨(congrArg Prod.fst sT_381), G⟩ (Nat.le_of_ble_eq_true rfl) (sp_198 G o9 ?_)
    show mx_wp (d + 3) 279 28 [some (.ref 381), some (.int i1), some (.int i2), some (.int i3), some (.int ((V_205 (mx_i h 382) i1) - (V_205 (mx_i h 382) i2))), some (.int ((V_198 (mx_i h 382) i3 (2 : Int32)) - ((V_198 (mx_i h 382) i3 (2 : Int32)) / 2)))] [.int (V_198 (mx_i h 382) i3 (4 : Int32)), .int ((V_205 (mx_i h 382) i1) - (V_205 (mx_i h 382) i2))] h Q
    refine wp_steps (i' := 29) (ls' := [some (.ref 381), some (.int i1), some (.int i2), some (.int i3), some (.int ((V_205 (mx_i h 382) i1) - (V_205 (mx_i h 382) i2))), some (.int ((V_198 (mx_i h 382) i3 (2 : Int32)) - ((V_198 (mx_i h 382) i3 (2 : Int32)) / 2)))]) (st' := [.int i1, .int (V_198 (mx_i h 382) i3 (4 : Int32)), .int ((V_205 (mx_i h 382) i1) - (V_205 (mx_i h 382) i2))]) (h' := h) (P := True) 1 rfl rfl trivial ?_
    refine wp_br (P := True) (c := ¬ (V_198 (mx_i h 382) i3 (4 : Int32)) = i1) (t := 32) (st' := [.int ((V_205 (mx_i h 382) i1) - (V_205 (mx_i h 382) i2))]) rfl rfl trivial (fun c10 => ?_) (fun c10 => ?_)
    · skip
      refine wp_steps (i' := 35) (ls' := [some (.ref 381), some (.int i1), some (.int i2), some (.int i3), some (.int ((V_205 (mx_i h 382) i1) - (V_205 (mx_i h 382) i2))), some (.int ((V_198 (mx_i h 382) i3 (2 : Int32)) - ((V_198 (mx_i h 382) i3 (2 : Int32)) / 2)))]) (st' := [.int 4, .int i3, .ref 381, .int ((V_205 (mx_i h 382) i1) - (V_205 (mx_i h 382) i2))]) (h' := h) (P := True) 3 rfl rfl trivial ?_
      refine wp_call (b := false) (y' := 198) (as := [.ref 381, .int i3, .int 4]) (rest := [.int ((V_205 (mx_i h 382) i1) - (V_205 (mx_i h 382) i2))]) (P := ((mxT 381).1 = mxRc 198 ∧ mxG h)) rfl (by with_unfolding_all rfl) ⟨(congrArg Prod.fst sT_381), G⟩ (Nat.le_of_ble_eq_true rfl) (sp_198 G o9 ?_)
      show mx_wp (d + 3) 279 36 [some (.ref 381), some (.int i1), some (.int i2), some (.int i3), some (.int ((V_205 (mx_i h 382) i1) - (V_205 (mx_i h 382) i2))), some (.int ((V_198 (mx_i h 382) i3 (2 : Int32)) - ((V_198 (mx_i h 382) i3 (2 : Int32)) / 2)))] [.int (V_198 (mx_i h 382) i3 (4 : Int32)), .int ((V_205 (mx_i h 382) i1) - (V_205 (mx_i h 382) i2))] h Q
      refine wp_steps (i' := 37) (ls' := [some (.ref 381), some (.int i1), some (.int i2), some (.int i3), some (.int ((V_205 (mx_i h 382) i1) - (V_205 (mx_i h 382) i2))), some (.int ((V_198 (mx_i h 382) i3 (2 : Int32)) - ((V_198 (mx_i h 382) i3 (2 : Int32)) / 2)))]) (st' := [.int i2, .int (V_198 (mx_i h 382) i3 (4 : Int32)), .int ((V_205 (mx_i h 382) i1) - (V_205 (mx_i h 382) i2))]) (h' := h) (P := True) 1 rfl rfl trivial ?_
      refine wp_br (P := True) (c := ¬ (V_198 (mx_i h 382) i3 (4 : Int32)) = i2) (t := 41) (st' := [.int ((V_205 (mx_i h 382) i1) - (V_205 (mx_i h 382) i2))]) rfl rfl trivial (fun c11 => ?_) (fun c11 => ?_)
      · skip
        refine wp_steps (i' := 44) (ls' := [some (.ref 381), some (.int i1), some (.int i2), some (.int i3), some (.int (((V_205 (mx_i h 382) i1) - (V_205 (mx_i h 382) i2)) - 0)), some (.int ((V_198 (mx_i h 382) i3 (2 : Int32)) - ((V_198 (mx_i h 382) i3 (2 : Int32)) / 2)))]) (st' := []) (h' := h) (P := True) 3 rfl rfl trivial ?_
        exact J _ _ (by rw [if_neg c7, if_neg c10, if_neg c11])
      · have c11 := Decidable.of_not_not c11
        refine wp_steps (i' := 40) (ls' := [some (.ref 381), some (.int i1), some (.int i2), some (.int i3), some (.int ((V_205 (mx_i h 382) i1) - (V_205 (mx_i h 382) i2))), some (.int ((V_198 (mx_i h 382) i3 (2 : Int32)) - ((V_198 (mx_i h 382) i3 (2 : Int32)) / 2)))]) (st' := [.int (-((V_198 (mx_i h 382) i3 (2 : Int32)) - ((V_198 (mx_i h 382) i3 (2 : Int32)) / 2))), .int ((V_205 (mx_i h 382) i1) - (V_205 (mx_i h 382) i2))]) (h' := h) (P := True) 2 rfl rfl trivial ?_
        refine wp_J (j := 42) (st' := [.int (-((V_198 (mx_i h 382) i3 (2 : Int32)) - ((V_198 (mx_i h 382) i3 (2 : Int32)) / 2))), .int ((V_205 (mx_i h 382) i1) - (V_205 (mx_i h 382) i2))]) rfl rfl ?_
        refine wp_steps (i' := 44) (ls' := [some (.ref 381), some (.int i1), some (.int i2), some (.int i3), some (.int (((V_205 (mx_i h 382) i1) - (V_205 (mx_i h 382) i2)) - (-((V_198 (mx_i h 382) i3 (2 : Int32)) - ((V_198 (mx_i h 382) i3 (2 : Int32)) / 2))))), some (.int ((V_198 (mx_i h 382) i3 (2 : Int32)) - ((V_198 (mx_i h 382) i3 (2 : Int32)) / 2)))]) (st' := []) (h' := h) (P := True) 2 rfl rfl trivial ?_
        exact J _ _ (by rw [if_neg c7, if_neg c10, if_pos c11])
    · have c10 := Decidable.of_not_not c10
      refine wp_steps (i' := 31) (ls' := [some (.ref 381), some (.int i1), some (.int i2), some (.int i3), some (.int ((V_205 (mx_i h 382) i1) - (V_205 (mx_i h 382) i2))), some (.int ((V_198 (mx_i h 382) i3 (2 : Int32)) - ((V_198 (mx_i h 382) i3 (2 : Int32)) / 2)))]) (st' := [.int ((V_198 (mx_i h 382) i3 (2 : Int32)) - ((V_198 (mx_i h 382) i3 (2 : Int32)) / 2)), .int ((V_205 (mx_i h 382) i1) - (V_205 (mx_i h 382) i2))]) (h' := h) (P := True) 1 rfl rfl trivial ?_
      refine wp_J (j := 42) (st' := [.int ((V_198 (mx_i h 382) i3 (2 : Int32)) - ((V_198 (mx_i h 382) i3 (2 : Int32)) / 2)), .int ((V_205 (mx_i h 382) i1) - (V_205 (mx_i h 382) i2))]) rfl rfl ?_
      refine wp_steps (i' := 44) (ls' := [some (.ref 381), some (.int i1), some (.int i2), some (.int i3), some (.int (((V_205 (mx_i h 382) i1) - (V_205 (mx_i h 382) i2)) - ((V_198 (mx_i h 382) i3 (2 : Int32)) - ((V_198 (mx_i h 382) i3 (2 : Int32)) / 2)))), some (.int ((V_198 (mx_i h 382) i3 (2 : Int32)) - ((V_198 (mx_i h 382) i3 (2 : Int32)) / 2)))]) (st' := []) (h' := h) (P := True) 2 rfl rfl trivial ?_
      exact J _ _ (by rw [if_neg c7, if_pos c10])
def V_279 (r : Nat → Int32) (i1 : Int32) (i2 : Int32) (i3 : Int32) : Int32 := ((if 0 < ((if i3 = (-1) then ((V_205 (r) i1) - (V_205 (r) i2)) else (if (V_198 (r) i3 (4 : Int32)) = i1 then (((V_205 (r) i1) - (V_205 (r) i2)) - ((V_198 (r) i3 (2 : Int32)) - ((V_198 (r) i3 (2 : Int32)) / 2))) else (if (V_198 (r) i3 (4 : Int32)) = i2 then (((V_205 (r) i1) - (V_205 (r) i2)) - (-((V_198 (r) i3 (2 : Int32)) - ((V_198 (r) i3 (2 : Int32)) / 2)))) else (((V_205 (r) i1) - (V_205 (r) i2)) - 0)))) : Int32) then 0 else (if ((if i3 = (-1) then ((V_205 (r) i1) - (V_205 (r) i2)) else (if (V_198 (r) i3 (4 : Int32)) = i1 then (((V_205 (r) i1) - (V_205 (r) i2)) - ((V_198 (r) i3 (2 : Int32)) - ((V_198 (r) i3 (2 : Int32)) / 2))) else (if (V_198 (r) i3 (4 : Int32)) = i2 then (((V_205 (r) i1) - (V_205 (r) i2)) - (-((V_198 (r) i3 (2 : Int32)) - ((V_198 (r) i3 (2 : Int32)) / 2)))) else (((V_205 (r) i1) - (V_205 (r) i2)) - 0)))) : Int32) = 0 then 1 else 2)) : Int32)
theorem sp_279 {d : Nat} {h : mxH} {Q : mxO → mxH → Prop} {i1 : Int32} {i2 : Int32} {i3 : Int32} (G : mxG h)  (x0 : cB (mx_i h 382 4) 10) (x1 : ((i3 = (-1) → True) ∧ (¬ i3 = (-1) → (vp_in ((69 + (6 * i3)) + (2 : Int32)) 769 ∧ (vp_in ((69 + (6 * i3)) + (4 : Int32)) 769 ∧ True))))) (k : Q (.inl (some (.int (V_279 (mx_i h 382) i1 i2 i3)))) h) : mx_wp (d + 3) 279 0 (mx_fr 279 [.ref 381, .int i1, .int i2, .int i3]) [] h Q := by
  unfold V_279 at k
  have hob : (cB (mx_i h 382 4) 10 ∧ (((i3 = (-1) → True) ∧ (¬ i3 = (-1) → (vp_in ((69 + (6 * i3)) + (2 : Int32)) 769 ∧ (vp_in ((69 + (6 * i3)) + (4 : Int32)) 769 ∧ True)))) ∧ True)) := ⟨x0, ⟨x1, trivial⟩⟩
  refine tr_279_0 G  ?_
  obtain ⟨q0, hob⟩ := hob
  refine ⟨q0, ?_⟩
  obtain ⟨q0, hob⟩ := hob
  refine ⟨q0, ?_⟩
  intro v2 ev2
  subst ev2
  intro v4 ev4
  subst ev4
  exact k
