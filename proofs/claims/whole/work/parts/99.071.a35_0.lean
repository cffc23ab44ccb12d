/-! 56: StoneBacks$Scales.findCases(LStoneBacks$Valley;)V -/
def H_56_5 (d : Nat) (h : mxH) (a : Nat) (i2 : Int32) (Q : mxO → mxH → Prop) : Prop := mx_wp d 56 5 [some (.ref 117), some (.ref a), some (.int i2)] [] h Q
set_option maxRecDepth 8000 in
theorem tr_56_0 {d : Nat} {h : mxH} {Q : mxO → mxH → Prop} {a : Nat} (G : mxG h) (hVa : (mxT a).1 = 9) (H : (∀ h1, h1 = mx_wi h 117 2 0 → H_56_5 (d + 4) h1 a 0 Q)) : mx_wp (d + 4) 56 0 (mx_fr 56 [.ref 117, .ref a]) [] h Q := by
  show mx_wp (d + 4) 56 0 [some (.ref 117), some (.ref a), none] [] h Q
  refine wp_steps (i' := 3) (ls' := [some (.ref 117), some (.ref a), none]) (st' := []) (h' := mx_wi h 117 2 0) (P := ((mxT 117).1 = 6 ∧ mxG h) ∧ True) 3 rfl rfl ⟨⟨(congrArg Prod.fst sT_117), G⟩, trivial⟩ ?_
  obtain ⟨h1, e2⟩ : ∃ z9, z9 = mx_wi h 117 2 0 := ⟨_, rfl⟩
  rw [← e2]
  have H := H h1 e2
  have G3 : mxG h1 := e2 ▸ mxG_wi G
  refine wp_steps (i' := 5) (ls' := [some (.ref 117), some (.ref a), some (.int 0)]) (st' := []) (h' := h1) (P := True) 2 rfl rfl trivial ?_
  exact H 
set_option maxRecDepth 8000 in
theorem tr_56_5 {d : Nat} {h : mxH} {Q : mxO → mxH → Prop} {a : Nat} {i2 : Int32} (G : mxG h) (hVa : (mxT a).1 = 9) (H : ((10 < i2 → Q (.inl none) h) ∧ (¬ 10 < i2 → (((i2 = 10 → True) ∧ (¬ i2 = 10 → ((i2 < (mx_i h (a + 7) 0) → (vp_in i2 10 ∧ True)) ∧ (¬ i2 < (mx_i h (a + 7) 0) → True)))) ∧ (((V_57 h i2 a) = 0 → H_56_5 (d + 4) h a (i2 + 1) Q) ∧ (¬ (V_57 h i2 a) = 0 → (cB (mx_i h (a + 7) 0) 10 ∧ cB (mx_i h 117 1) 12 ∧ ¬ i2 < 0 ∧ (((V_58 h i2 a) = 0 → H_56_5 (d + 4) h a (i2 + 1) Q) ∧ (¬ (V_58 h i2 a) = 0 → (∀ h8, h8 = mx_wi h 117 2 ((mx_i h 117 2) ||| ((1 : Int32) <<< (i2 &&& 31))) → H_56_5 (d + 4) h8 a (i2 + 1) Q)))))))))) : H_56_5 (d + 4) h a i2 Q := by
  show mx_wp (d + 4) 56 5 [some (.ref 117), some (.ref a), some (.int i2)] [] h Q
  refine wp_steps (i' := 7) (ls' := [some (.ref 117), some (.ref a), some (.int i2)]) (st' := [.int 10, .int i2]) (h' := h) (P := True) 2 rfl rfl trivial ?_
  refine wp_br (P := True) (c := 10 < i2) (t := 27) (st' := []) rfl rfl trivial (fun c1 => ?_) (fun c1 => ?_)
  · skip
    have H := H.1 c1
    exact wp_end (o := .inl none) (h' := h) (P := True) rfl rfl trivial H
  · skip
    have H := H.2 c1
    refine wp_steps (i' := 10) (ls' := [some (.ref 117), some (.ref a), some (.int i2)]) (st' := [.ref a, .int i2]) (h' := h) (P := True) 2 rfl rfl trivial ?_
    obtain ⟨o2, H⟩ := H
    refine wp_call (b := false) (y' := 57) (as := [.int i2, .ref a]) (rest := []) (P := True) rfl (by with_unfolding_all rfl) trivial (Nat.le_of_ble_eq_true rfl) (sp_57 G hVa o2 ?_)
    show mx_wp (d + 4) 56 11 [some (.ref 117), some (.ref a), some (.int i2)] [.int (V_57 h i2 a)] h Q
    refine wp_br (P := True) (c := (V_57 h i2 a) = 0) (t := 25) (st' := []) rfl rfl trivial (fun c3 => ?_) (fun c3 => ?_)
    · skip
      have H := H.1 c3
      refine wp_steps (i' := 26) (ls' := [some (.ref 117), some (.ref a), some (.int (i2 + 1))]) (st' := []) (h' := h) (P := True) 1 rfl rfl trivial ?_
      refine wp_J (j := 5) (st' := []) rfl rfl ?_
      exact H 
    · skip
      have H := H.2 c3
      refine wp_steps (i' := 15) (ls' := [some (.ref 117), some (.ref a), some (.int i2)]) (st' := [.ref a, .int i2, .ref 117]) (h' := h) (P := True) 3 rfl rfl trivial ?_
      obtain ⟨o4, o5, o6, H⟩ := H
      refine wp_call (b := false) (y' := 58) (as := [.ref 117, .int i2, .ref a]) (rest := []) (P := ((mxT 117).1 = mxRc 58 ∧ mxG h)) rfl (by with_unfolding_all rfl) ⟨(congrArg Prod.fst sT_117), G⟩ (Nat.le_of_ble_eq_true rfl) (sp_58 G hVa o4 o5 o6 ?_)
      show mx_wp (d + 4) 56 16 [some (.ref 117), some (.ref a), some (.int i2)] [.int (V_58 h i2 a)] h Q
      refine wp_br (P := True) (c := (V_58 h i2 a) = 0) (t := 25) (st' := []) rfl rfl trivial (fun c7 => ?_) (fun c7 => ?_)
      · skip
        have H := H.1 c7
        refine wp_steps (i' := 26) (ls' := [some (.ref 117), some (.ref a), some (.int (i2 + 1))]) (st' := []) (h' := h) (P := True) 1 rfl rfl trivial ?_
        refine wp_J (j := 5) (st' := []) rfl rfl ?_
        exact H 
      · skip
        have H := H.2 c7
        refine wp_steps (i' := 25) (ls' := [some (.ref 117), some (.ref a), some (.int i2)]) (st' := []) (h' := mx_wi h 117 2 ((mx_i h 117 2) ||| ((1 : Int32) <<< (i2 &&& 31)))) (P := ((mxT 117).1 = 6 ∧ mxG h) ∧ ((mxT 117).1 = 6 ∧ mxG h) ∧ True) 8 rfl rfl ⟨⟨(congrArg Prod.fst sT_117), G⟩, ⟨(congrArg Prod.fst sT_117), G⟩, trivial⟩ ?_
        obtain ⟨h8, e9⟩ : ∃ z9, z9 = mx_wi h 117 2 ((mx_i h 117 2) ||| ((1 : Int32) <<< (i2 &&& 31))) := ⟨_, rfl⟩
        rw [← e9]
        have H := H h8 e9
        have G10 : mxG h8 := e9 ▸ mxG_wi G
        refine wp_steps (i' := 26) (ls' := [some (.ref 117), some (.ref a), some (.int (i2 + 1))]) (st' := []) (h' := h8) (P := True) 1 rfl rfl trivial ?_
        refine wp_J (j := 5) (st' := []) rfl rfl ?_
        exact H 
def F_56_5 (a : Nat) (z : Nat) (s : mxH) : mxH := (if (V_57 s (nI z) a) = 0 then s else (if (V_58 s (nI z) a) = 0 then s else (mx_wi s 117 2 ((mx_i s 117 2) ||| ((1 : Int32) <<< ((nI z) &&& 31))))))
theorem K_56_5 {a : Nat} (z : Nat) (s : mxH) : mxK s ((F_56_5 a) z s) := by
  unfold F_56_5
  (try simp only []); repeat' (first | with_reducible exact mxK_rfl | with_reducible exact mxK_wi | with_reducible exact mxK_wrow | with_reducible refine mxK_ite ?_ ?_ | with_reducible refine mxK_tr ?_ mxK_wi | with_reducible refine mxK_tr ?_ mxK_wrow)
theorem lp_56_5 {d : Nat} {Q : mxO → mxH → Prop} {a : Nat} {s0 : mxH} {n : Nat} (z0 : Nat) (G : mxG s0) (hVa : (mxT a).1 = 9) (hB : ∀ z, z0 ≤ z → z ≤ n → (10 : Int32) = nI (n - 1)) (hn1 : 1 ≤ n) (hn : n < 2147483648) (hz : z0 ≤ n) (ob : ∀ z, z0 ≤ z → z < n → ((((nI z) = 10 → True) ∧ (¬ (nI z) = 10 → (((nI z) < (mx_i (fz (F_56_5 a) z0 z s0) (a + 7) 0) → (vp_in (nI z) 10 ∧ True)) ∧ (¬ (nI z) < (mx_i (fz (F_56_5 a) z0 z s0) (a + 7) 0) → True)))) ∧ (((V_57 (fz (F_56_5 a) z0 z s0) (nI z) a) = 0 → True) ∧ (¬ (V_57 (fz (F_56_5 a) z0 z s0) (nI z) a) = 0 → (cB (mx_i (fz (F_56_5 a) z0 z s0) (a + 7) 0) 10 ∧ cB (mx_i (fz (F_56_5 a) z0 z s0) 117 1) 12 ∧ ¬ (nI z) < 0 ∧ True))))) (k : Q (.inl none) (fz (F_56_5 a) z0 n s0)) : H_56_5 (d + 4) s0 a (nI z0) Q := by
  have L : ∀ (j z : Nat), z0 ≤ z → z + j = n → H_56_5 (d + 4) (fz (F_56_5 a) z0 z s0) a (nI z) Q := by
    intro j
    induction j with
    | zero =>
      intro z hz0 hzn
      have hzn : z = n := by omega
      subst hzn
      have Gz : mxG (fz (F_56_5 a) z0 z s0) := mxK_G (mxK_fz (g := fun s => s) (fun z s => K_56_5 z s) z0 z s0) G
      have hBz := hB z hz0 (by omega)
      refine tr_56_5 Gz hVa ⟨fun c9 => k, fun c9 => absurd (hBz.symm ▸ nI_lt (by omega) hn) c9⟩
    | succ j ih =>
      intro z hz0 hzn
      have hih := ih (z + 1) (by omega) (by omega)
      rw [nI_succ, fz_s hz0] at hih
      have Gz : mxG (fz (F_56_5 a) z0 z s0) := mxK_G (mxK_fz (g := fun s => s) (fun z s => K_56_5 z s) z0 z s0) G
      have hBz := hB z hz0 (by omega)
      have hob := ob z hz0 (by omega)
      refine tr_56_5 Gz hVa ⟨fun c9 => absurd (hBz ▸ c9) (nI_nlt (by omega) (by omega)), fun c9 => ?_⟩
      generalize (fz (F_56_5 a) z0 z s0) = s at hih hob hBz Gz ⊢
      unfold F_56_5 at hih
      (try simp only [] at hih)
      obtain ⟨q0, hob⟩ := hob
      refine ⟨q0, ?_⟩
      refine ⟨fun c9 => ?_, fun c9 => ?_⟩
      · try simp only [if_pos c9] at hih
        have hob := hob.1 c9
        exact hih
      · try simp only [if_neg c9] at hih
        have hob := hob.2 c9
        obtain ⟨q0, q1, q2, hob⟩ := hob
        refine ⟨q0, q1, q2, ?_⟩
        refine ⟨fun c9 => ?_, fun c9 => ?_⟩
        · try simp only [if_pos c9] at hih
          exact hih
        · try simp only [if_neg c9] at hih
          intro h8 eh8
          subst eh8
          exact hih
  have L0 := L (n - z0) z0 (Nat.le_refl _) (by omega)
  simp only [fz_0] at L0
  exact L0
/-! 63: StoneBacks$Scales.nextTwo(LStoneBacks$Valley;)I -/
def H_63_13 (d : Nat) (h : mxH) (a : Nat) (i2 : Int32) (i3 : Int32) (i4 : Int32) (Q : mxO → mxH → Prop) : Prop := ∀ (w5 : Option Value) (w6 : Option Value), mx_wp d 63 13 [some (.ref 117), some (.ref a), some (.int i2), some (.int i3), some (.int i4), w5, w6] [] h Q
def H_63_22 (d : Nat) (h : mxH) (a : Nat) (i2 : Int32) (i3 : Int32) (i4 : Int32) (i5 : Int32) (Q : mxO → mxH → Prop) : Prop := ∀ (w6 : Option Value), mx_wp d 63 22 [some (.ref 117), some (.ref a), some (.int i2), some (.int i3), some (.int i4), some (.int i5), w6] [] h Q
set_option maxRecDepth 8000 in
theorem tr_63_0 {d : Nat} {h : mxH} {Q : mxO → mxH → Prop} {a : Nat} (G : mxG h) (hVa : (mxT a).1 = 9) (H : (((V_306 h (mx_i h 117 2)) < 2 → Q (.inl (some (.int (-1)))) h) ∧ (¬ (V_306 h (mx_i h 117 2)) < 2 → H_63_13 (d + 4) h a (-1) (V_306 h (mx_i h 117 2)) 0 Q))) : mx_wp (d + 4) 63 0 (mx_fr 63 [.ref 117, .ref a]) [] h Q := by
  show mx_wp (d + 4) 63 0 [some (.ref 117), some (.ref a), none, none, none, none, none] [] h Q
  refine wp_steps (i' := 4) (ls' := [some (.ref 117), some (.ref a), some (.int (-1)), none, none, none, none]) (st' := [.int (mx_i h 117 2)]) (h' := h) (P := ((mxT 117).1 = 6 ∧ mxG h) ∧ True) 4 rfl rfl ⟨⟨(congrArg Prod.fst sT_117), G⟩, trivial⟩ ?_
  refine wp_call (b := false) (y' := 306) (as := [.int (mx_i h 117 2)]) (rest := []) (P := True) rfl (by with_unfolding_all rfl) trivial (Nat.le_of_ble_eq_true rfl) (sp_306 G ?_)
  show mx_wp (d + 4) 63 5 [some (.ref 117), some (.ref a), some (.int (-1)), none, none, none, none] [.int (V_306 h (mx_i h 117 2))] h Q
  refine wp_steps (i' := 8) (ls' := [some (.ref 117), some (.ref a), some (.int (-1)), some (.int (V_306 h (mx_i h 117 2))), none, none, none]) (st' := [.int 2, .int (V_306 h (mx_i h 117 2))]) (h' := h) (P := True) 3 rfl rfl trivial ?_
  refine wp_br (P := True) (c := 2 ≤ (V_306 h (mx_i h 117 2))) (t := 11) (st' := []) rfl rfl trivial (fun c1 => ?_) (fun c1 => ?_)
  · have c1 := Int32.not_lt.mpr c1
    have H := H.2 c1
    refine wp_steps (i' := 13) (ls' := [some (.ref 117), some (.ref a), some (.int (-1)), some (.int (V_306 h (mx_i h 117 2))), some (.int 0), none, none]) (st' := []) (h' := h) (P := True) 2 rfl rfl trivial ?_
    exact H _ _
  · have c1 := Int32.not_le.mp c1
    have H := H.1 c1
    refine wp_steps (i' := 10) (ls' := [some (.ref 117), some (.ref a), some (.int (-1)), some (.int (V_306 h (mx_i h 117 2))), none, none, none]) (st' := [.int (-1)]) (h' := h) (P := True) 1 rfl rfl trivial ?_
    exact wp_end (o := .inl (some (.int (-1)))) (h' := h) (P := True) rfl rfl trivial H
set_option maxRecDepth 8000 in
theorem tr_63_13 {d : Nat} {h : mxH} {Q : mxO → mxH → Prop} {a : Nat} {i2 : Int32} {i3 : Int32} {i4 : Int32} (G : mxG h) (hVa : (mxT a).1 = 9) (H : ((i4 < (mx_i h (a + 1) 0) → H_63_22 (d + 4) h a i2 i3 i4 (i4 + 1) Q) ∧ (¬ i4 < (mx_i h (a + 1) 0) → Q (.inl (some (.int i2))) h))) : H_63_13 (d + 4) h a i2 i3 i4 Q := by
  intro w5 w6
  show mx_wp (d + 4) 63 13 [some (.ref 117), some (.ref a), some (.int i2), some (.int i3), some (.int i4), w5, w6] [] h Q
  refine wp_steps (i' := 17) (ls' := [some (.ref 117), some (.ref a), some (.int i2), some (.int i3), some (.int i4), w5, w6]) (st' := [.int (mx_i h (a + 1) 0), .int i4]) (h' := h) (P := ((mxT a).1 = 9 ∧ mxG h) ∧ ((mxT (a + 1)).1 = 5 ∧ mxG h) ∧ True) 4 rfl rfl ⟨⟨(congrArg Prod.fst (sV_0 hVa)), G⟩, ⟨(congrArg Prod.fst (sV_1 hVa)), G⟩, trivial⟩ ?_
  refine wp_br (P := True) (c := (mx_i h (a + 1) 0) ≤ i4) (t := 51) (st' := []) rfl rfl trivial (fun c1 => ?_) (fun c1 => ?_)
  · have c1 := Int32.not_lt.mpr c1
    have H := H.2 c1
    refine wp_steps (i' := 52) (ls' := [some (.ref 117), some (.ref a), some (.int i2), some (.int i3), some (.int i4), w5, w6]) (st' := [.int i2]) (h' := h) (P := True) 1 rfl rfl trivial ?_
    exact wp_end (o := .inl (some (.int i2))) (h' := h) (P := True) rfl rfl trivial H
  · have c1 := Int32.not_le.mp c1
    have H := H.1 c1
    refine wp_steps (i' := 22) (ls' := [some (.ref 117), some (.ref a), some (.int i2), some (.int i3), some (.int i4), some (.int (i4 + 1)), w6]) (st' := []) (h' := h) (P := True) 4 rfl rfl trivial ?_
    exact H _
set_option maxRecDepth 8000 in
theorem tr_63_22 {d : Nat} {h : mxH} {Q : mxO → mxH → Prop} {a : Nat} {i2 : Int32} {i3 : Int32} {i4 : Int32} {i5 : Int32} (G : mxG h) (hVa : (mxT a).1 = 9) (H : ((i5 < (mx_i h (a + 1) 0) → (cB (mx_i h (a + 7) 0) 10 ∧ (∀ (v3 : Int32), v3 = ((if i2 = (-1) then ((10 * i4) + i5) else (if (V_64 h a i4 i5) < i3 then ((10 * i4) + i5) else i2)) : Int32) → (∀ (v4 : Int32), v4 = ((if i2 = (-1) then (V_64 h a i4 i5) else (if (V_64 h a i4 i5) < i3 then (V_64 h a i4 i5) else i3)) : Int32) → H_63_22 (d + 4) h a v3 v4 i4 (i5 + 1) Q)))) ∧ (¬ i5 < (mx_i h (a + 1) 0) → H_63_13 (d + 4) h a i2 i3 (i4 + 1) Q))) : H_63_22 (d + 4) h a i2 i3 i4 i5 Q := by
  intro w6
  show mx_wp (d + 4) 63 22 [some (.ref 117), some (.ref a), some (.int i2), some (.int i3), some (.int i4), some (.int i5), w6] [] h Q
  refine wp_steps (i' := 26) (ls' := [some (.ref 117), some (.ref a), some (.int i2), some (.int i3), some (.int i4), some (.int i5), w6]) (st' := [.int (mx_i h (a + 1) 0), .int i5]) (h' := h) (P := ((mxT a).1 = 9 ∧ mxG h) ∧ ((mxT (a + 1)).1 = 5 ∧ mxG h) ∧ True) 4 rfl rfl ⟨⟨(congrArg Prod.fst (sV_0 hVa)), G⟩, ⟨(congrArg Prod.fst (sV_1 hVa)), G⟩, trivial⟩ ?_
  refine wp_br (P := True) (c := (mx_i h (a + 1) 0) ≤ i5) (t := 49) (st' := []) rfl rfl trivial (fun c1 => ?_) (fun c1 => ?_)
  · have c1 := Int32.not_lt.mpr c1
    have H := H.2 c1
    refine wp_steps (i' := 50) (ls' := [some (.ref 117), some (.ref a), some (.int i2), some (.int i3), some (.int (i4 + 1)), some (.int i5), w6]) (st' := []) (h' := h) (P := True) 1 rfl rfl trivial ?_
    refine wp_J (j := 13) (st' := []) rfl rfl ?_
    exact H _ _
  · have c1 := Int32.not_le.mp c1
    have H := H.1 c1
    refine wp_steps (i' := 31) (ls' := [some (.ref 117), some (.ref a), some (.int i2), some (.int i3), some (.int i4), some (.int i5), w6]) (st' := [.int i5, .int i4, .ref a, .ref 117]) (h' := h) (P := True) 4 rfl rfl trivial ?_
    obtain ⟨o2, H⟩ := H
    refine wp_call (b := false) (y' := 64) (as := [.ref 117, .ref a, .int i4, .int i5]) (rest := []) (P := ((mxT 117).1 = mxRc 64 ∧ mxG h)) rfl (by with_unfolding_all rfl) ⟨(congrArg Prod.fst sT_117), G⟩ (Nat.le_of_ble_eq_true rfl) (sp_64 G hVa o2 ?_)
    show mx_wp (d + 4) 63 32 [some (.ref 117), some (.ref a), some (.int i2), some (.int i3), some (.int i4), some (.int i5), w6] [.int (V_64 h a i4 i5)] h Q
    refine wp_steps (i' := 35) (ls' := [some (.ref 117), some (.ref a), some (.int i2), some (.int i3), some (.int i4), some (.int i5), some (.int (V_64 h a i4 i5))]) (st' := [.int (-1), .int i2]) (h' := h) (P := True) 3 rfl rfl trivial ?_
    have J : ∀ (v3 : Int32) (v4 : Int32) (ev3 : v3 = ((if i2 = (-1) then ((10 * i4) + i5) else (if (V_64 h a i4 i5) < i3 then ((10 * i4) + i5) else i2)) : Int32)) (ev4 : v4 = ((if i2 = (-1) then (V_64 h a i4 i5) else (if (V_64 h a i4 i5) < i3 then (V_64 h a i4 i5) else i3)) : Int32)), mx_wp (d + 4) 63 47 [some (.ref 117), some (.ref a), some (.int v3), some (.int v4), some (.int i4), some (.int i5), some (.int (V_64 h a i4 i5))] [] h Q := by
      intro v3 v4 ev3 ev4
      have H := H v3 ev3 v4 ev4
      refine wp_steps (i' := 48) (ls' := [some (.ref 117), some (.ref a), some (.int v3), some (.int v4), some (.int i4), some (.int (i5 + 1)), some (.int (V_64 h a i4 i5))]) (st' := []) (h' := h) (P := True) 1 rfl rfl trivial ?_
      refine wp_J (j := 22) (st' := []) rfl rfl ?_
      exact H _
    refine wp_br (P := True) (c := i2 = (-1)) (t := 39) (st' := []) rfl rfl trivial (fun c5 => ?_) (fun c5 => ?_)
    · skip
      refine wp_steps (i' := 47) (ls' := [some (.ref 117), some (.ref a), some (.int ((10 * i4) + i5)), some (.int (V_64 h a i4 i5)), some (.int i4), some (.int i5), some (.int (V_64 h a i4 i5))]) (st' := []) (h' := h) (P := True) 8 rfl rfl trivial ?_
      exact J _ _ (by rw [if_pos c5]) (by rw [if_pos c5])
    · skip
      refine wp_steps (i' := 38) (ls' := [some (.ref 117), some (.ref a), some (.int i2), some (.int i3), some (.int i4), some (.int i5), some (.int (V_64 h a i4 i5))]) (st' := [.int i3, .int (V_64 h a i4 i5)]) (h' := h) (P := True) 2 rfl rfl trivial ?_
      refine wp_br (P := True) (c := i3 ≤ (V_64 h a i4 i5)) (t := 47) (st' := []) rfl rfl trivial (fun c6 => ?_) (fun c6 => ?_)
      · have c6 := Int32.not_lt.mpr c6
        exact J _ _ (by rw [if_neg c5, if_neg c6]) (by rw [if_neg c5, if_neg c6])
      · have c6 := Int32.not_le.mp c6
        refine wp_steps (i' := 47) (ls' := [some (.ref 117), some (.ref a), some (.int ((10 * i4) + i5)), some (.int (V_64 h a i4 i5)), some (.int i4), some (.int i5), some (.int (V_64 h a i4 i5))]) (st' := []) (h' := h) (P := True) 8 rfl rfl trivial ?_
        exact J _ _ (by rw [if_neg c5, if_pos c6]) (by rw [if_neg c5, if_pos c6])
def F_63_22 (h : mxH) (a : Nat) (i4 : Int32) (z : Nat) (s : (Int32 × Int32)) : (Int32 × Int32) := (((if s.1 = (-1) then ((10 * i4) + (nI z)) else (if (V_64 h a i4 (nI z)) < s.2 then ((10 * i4) + (nI z)) else s.1)) : Int32), ((if s.1 = (-1) then (V_64 h a i4 (nI z)) else (if (V_64 h a i4 (nI z)) < s.2 then (V_64 h a i4 (nI z)) else s.2)) : Int32))
theorem lp_63_22 {d : Nat} {h : mxH} {Q : mxO → mxH → Prop} {a : Nat} {i4 : Int32} {s0 : (Int32 × Int32)} {n : Nat} (z0 : Nat) (G : mxG h) (hVa : (mxT a).1 = 9) (hB : (mx_i h (a + 1) 0) = nI n) (hn : n < 2147483648) (hz : z0 ≤ n) (ob : ∀ z, z0 ≤ z → z < n → (cB (mx_i h (a + 7) 0) 10 ∧ True)) (k : H_63_13 (d + 4) h a (fz (F_63_22 h a i4) z0 n s0).1 (fz (F_63_22 h a i4) z0 n s0).2 (i4 + 1) Q) : H_63_22 (d + 4) h a s0.1 s0.2 i4 (nI z0) Q := by
  have L : ∀ (j z : Nat), z0 ≤ z → z + j = n → H_63_22 (d + 4) h a (fz (F_63_22 h a i4) z0 z s0).1 (fz (F_63_22 h a i4) z0 z s0).2 i4 (nI z) Q := by
    intro j
    induction j with
    | zero =>
      intro z hz0 hzn
      have hzn : z = n := by omega
      subst hzn
      refine tr_63_22 G hVa ⟨fun c9 => absurd (hB ▸ c9) Int32.lt_irrefl, fun c9 => k⟩
    | succ j ih =>
      intro z hz0 hzn
      have hih := ih (z + 1) (by omega) (by omega)
      rw [nI_succ, fz_s hz0] at hih
      have hob := ob z hz0 (by omega)
      refine tr_63_22 G hVa ⟨fun c9 => ?_, fun c9 => absurd (hB.symm ▸ nI_lt (by omega) hn) c9⟩
      obtain ⟨q0, hob⟩ := hob
      refine ⟨q0, ?_⟩
      intro v3 ev3
      subst ev3
      intro v4 ev4
      subst ev4
      exact hih
  have L0 := L (n - z0) z0 (Nat.le_refl _) (by omega)
  simp only [fz_0] at L0
  exact L0
