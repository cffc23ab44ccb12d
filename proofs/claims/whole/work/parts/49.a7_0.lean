/-! 14: StoneBacks$Choices.fewestGoes(LStoneBacks$Valley;)I -/
def H_14_20 (d : Nat) (h : mxH) (a : Nat) (i2 : Int32) (i3 : Int32) (Q : mxO → mxH → Prop) : Prop := ∀ (w4 : Option Value), mx_wp d 14 20 [some (.ref 109), some (.ref a), some (.int i2), some (.int i3), w4] [] h Q
set_option maxRecDepth 8000 in
theorem tr_14_0 {d : Nat} {h : mxH} {Q : mxO → mxH → Prop} {a : Nat} (G : mxG h) (hVa : (mxT a).1 = 9) (H : (∀ h1, h1 = mx_wi h 115 0 0 → (∀ h4, h4 = mx_wi h1 116 0 0 → H_14_20 (d + 1) h4 a (((1 : Int32) <<< ((mx_i h (a + 1) 0) &&& 31)) - 1) 1 Q))) : mx_wp (d + 1) 14 0 (mx_fr 14 [.ref 109, .ref a]) [] h Q := by
  show mx_wp (d + 1) 14 0 [some (.ref 109), some (.ref a), none, none, none] [] h Q
  refine wp_steps (i' := 13) (ls' := [some (.ref 109), some (.ref a), some (.int (((1 : Int32) <<< ((mx_i h (a + 1) 0) &&& 31)) - 1)), none, none]) (st' := []) (h' := mx_wi h 115 0 0) (P := ((mxT a).1 = 9 ∧ mxG h) ∧ ((mxT (a + 1)).1 = 5 ∧ mxG h) ∧ ((mxT 109).1 = 2 ∧ mxG h) ∧ (((mxT 115).1 = 50 ∧ mxG h) ∧ vp_in 0 (mxT 115).2) ∧ True) 13 rfl rfl ⟨⟨(congrArg Prod.fst (sV_0 hVa)), G⟩, ⟨(congrArg Prod.fst (sV_1 hVa)), G⟩, ⟨(congrArg Prod.fst sT_109), G⟩, (cA sT_115 G (vpl rfl)), trivial⟩ ?_
  obtain ⟨h1, e2⟩ : ∃ z9, z9 = mx_wi h 115 0 0 := ⟨_, rfl⟩
  rw [← e2]
  have H := H h1 e2
  have G3 : mxG h1 := e2 ▸ mxG_wi G
  refine wp_steps (i' := 18) (ls' := [some (.ref 109), some (.ref a), some (.int (((1 : Int32) <<< ((mx_i h (a + 1) 0) &&& 31)) - 1)), none, none]) (st' := []) (h' := mx_wi h1 116 0 0) (P := ((mxT 109).1 = 2 ∧ mxG h1) ∧ (((mxT 116).1 = 50 ∧ mxG h1) ∧ vp_in 0 (mxT 116).2) ∧ True) 5 rfl rfl ⟨⟨(congrArg Prod.fst sT_109), G3⟩, (cA sT_116 G3 (vpl rfl)), trivial⟩ ?_
  obtain ⟨h4, e5⟩ : ∃ z9, z9 = mx_wi h1 116 0 0 := ⟨_, rfl⟩
  rw [← e5]
  have H := H h4 e5
  have G6 : mxG h4 := e5 ▸ mxG_wi G3
  refine wp_steps (i' := 20) (ls' := [some (.ref 109), some (.ref a), some (.int (((1 : Int32) <<< ((mx_i h (a + 1) 0) &&& 31)) - 1)), some (.int 1), none]) (st' := []) (h' := h4) (P := True) 2 rfl rfl trivial ?_
  exact H _
set_option maxRecDepth 8000 in
theorem tr_14_20 {d : Nat} {h : mxH} {Q : mxO → mxH → Prop} {a : Nat} {i2 : Int32} {i3 : Int32} (G : mxG h) (hVa : (mxT a).1 = 9) (H : ((i2 < i3 → (vp_in i2 64 ∧ Q (.inl (some (.int (mx_i h 115 i2.toNatClampNeg)))) h)) ∧ (¬ i2 < i3 → (vp_in (i3 &&& (i3 - 1)) 64 ∧ (cB (mx_i h (a + 7) 0) 10 ∧ (vp_in i3 64 ∧ (∀ h6, h6 = mx_wi h 116 i3.toNatClampNeg ((mx_i h 116 (i3 &&& (i3 - 1)).toNatClampNeg) + (V_77 h a (V_305 h i3))) → (cB i3 63 ∧ (∀ h10, h10 = mx_wi h6 115 i3.toNatClampNeg (V_15 h6 i3 (mx_i h6 a 5)) → H_14_20 (d + 1) h10 a i2 (i3 + 1) Q))))))))) : H_14_20 (d + 1) h a i2 i3 Q := by
  intro w4
  show mx_wp (d + 1) 14 20 [some (.ref 109), some (.ref a), some (.int i2), some (.int i3), w4] [] h Q
  refine wp_steps (i' := 22) (ls' := [some (.ref 109), some (.ref a), some (.int i2), some (.int i3), w4]) (st' := [.int i2, .int i3]) (h' := h) (P := True) 2 rfl rfl trivial ?_
  refine wp_br (P := True) (c := i2 < i3) (t := 54) (st' := []) rfl rfl trivial (fun c1 => ?_) (fun c1 => ?_)
  · skip
    have H := H.1 c1
    obtain ⟨o2, H⟩ := H
    refine wp_steps (i' := 58) (ls' := [some (.ref 109), some (.ref a), some (.int i2), some (.int i3), w4]) (st' := [.int (mx_i h 115 i2.toNatClampNeg)]) (h' := h) (P := ((mxT 109).1 = 2 ∧ mxG h) ∧ (((mxT 115).1 = 50 ∧ mxG h) ∧ vp_in i2 (mxT 115).2) ∧ True) 4 rfl rfl ⟨⟨(congrArg Prod.fst sT_109), G⟩, (cA sT_115 G o2), trivial⟩ ?_
    exact wp_end (o := .inl (some (.int (mx_i h 115 i2.toNatClampNeg)))) (h' := h) (P := True) rfl rfl trivial H
  · skip
    have H := H.2 c1
    refine wp_steps (i' := 24) (ls' := [some (.ref 109), some (.ref a), some (.int i2), some (.int i3), w4]) (st' := [.int i3]) (h' := h) (P := True) 1 rfl rfl trivial ?_
    refine wp_call (b := false) (y' := 305) (as := [.int i3]) (rest := []) (P := True) rfl (by with_unfolding_all rfl) trivial (Nat.le_of_ble_eq_true rfl) (sp_305 G ?_)
    show mx_wp (d + 1) 14 25 [some (.ref 109), some (.ref a), some (.int i2), some (.int i3), w4] [.int (V_305 h i3)] h Q
    obtain ⟨o3, H⟩ := H
    refine wp_steps (i' := 40) (ls' := [some (.ref 109), some (.ref a), some (.int i2), some (.int i3), some (.int (V_305 h i3))]) (st' := [.int (V_305 h i3), .ref (a + 7), .int (mx_i h 116 (i3 &&& (i3 - 1)).toNatClampNeg), .int i3, .ref 116]) (h' := h) (P := ((mxT 109).1 = 2 ∧ mxG h) ∧ ((mxT 109).1 = 2 ∧ mxG h) ∧ (((mxT 116).1 = 50 ∧ mxG h) ∧ vp_in (i3 &&& (i3 - 1)) (mxT 116).2) ∧ ((mxT a).1 = 9 ∧ mxG h) ∧ True) 15 rfl rfl ⟨⟨(congrArg Prod.fst sT_109), G⟩, ⟨(congrArg Prod.fst sT_109), G⟩, (cA sT_116 G o3), ⟨(congrArg Prod.fst (sV_0 hVa)), G⟩, trivial⟩ ?_
    obtain ⟨o4, H⟩ := H
    refine wp_call (b := false) (y' := 77) (as := [.ref (a + 7), .int (V_305 h i3)]) (rest := [.int (mx_i h 116 (i3 &&& (i3 - 1)).toNatClampNeg), .int i3, .ref 116]) (P := ((mxT (a + 7)).1 = mxRc 77 ∧ mxG h)) rfl (by with_unfolding_all rfl) ⟨(congrArg Prod.fst (sV_7 hVa)), G⟩ (Nat.le_of_ble_eq_true rfl) (sp_77 G hVa o4 ?_)
    show mx_wp (d + 1) 14 41 [some (.ref 109), some (.ref a), some (.int i2), some (.int i3), some (.int (V_305 h i3))] [.int (V_77 h a (V_305 h i3)), .int (mx_i h 116 (i3 &&& (i3 - 1)).toNatClampNeg), .int i3, .ref 116] h Q
    obtain ⟨o5, H⟩ := H
    refine wp_steps (i' := 43) (ls' := [some (.ref 109), some (.ref a), some (.int i2), some (.int i3), some (.int (V_305 h i3))]) (st' := []) (h' := mx_wi h 116 i3.toNatClampNeg ((mx_i h 116 (i3 &&& (i3 - 1)).toNatClampNeg) + (V_77 h a (V_305 h i3)))) (P := (((mxT 116).1 = 50 ∧ mxG h) ∧ vp_in i3 (mxT 116).2) ∧ True) 2 rfl rfl ⟨(cA sT_116 G o5), trivial⟩ ?_
    obtain ⟨h6, e7⟩ : ∃ z9, z9 = mx_wi h 116 i3.toNatClampNeg ((mx_i h 116 (i3 &&& (i3 - 1)).toNatClampNeg) + (V_77 h a (V_305 h i3))) := ⟨_, rfl⟩
    rw [← e7]
    have H := H h6 e7
    have G8 : mxG h6 := e7 ▸ mxG_wi G
    refine wp_steps (i' := 50) (ls' := [some (.ref 109), some (.ref a), some (.int i2), some (.int i3), some (.int (V_305 h i3))]) (st' := [.int (mx_i h6 a 5), .int i3, .ref 109, .int i3, .ref 115]) (h' := h6) (P := ((mxT 109).1 = 2 ∧ mxG h6) ∧ ((mxT a).1 = 9 ∧ mxG h6) ∧ True) 7 rfl rfl ⟨⟨(congrArg Prod.fst sT_109), G8⟩, ⟨(congrArg Prod.fst (sV_0 hVa)), G8⟩, trivial⟩ ?_
    obtain ⟨o9, H⟩ := H
    refine wp_call (b := false) (y' := 15) (as := [.ref 109, .int i3, .int (mx_i h6 a 5)]) (rest := [.int i3, .ref 115]) (P := ((mxT 109).1 = mxRc 15 ∧ mxG h6)) rfl (by with_unfolding_all rfl) ⟨(congrArg Prod.fst sT_109), G8⟩ (Nat.le_of_ble_eq_true rfl) (sp_15 G8 o9 ?_)
    show mx_wp (d + 1) 14 51 [some (.ref 109), some (.ref a), some (.int i2), some (.int i3), some (.int (V_305 h i3))] [.int (V_15 h6 i3 (mx_i h6 a 5)), .int i3, .ref 115] h6 Q
    refine wp_steps (i' := 52) (ls' := [some (.ref 109), some (.ref a), some (.int i2), some (.int i3), some (.int (V_305 h i3))]) (st' := []) (h' := mx_wi h6 115 i3.toNatClampNeg (V_15 h6 i3 (mx_i h6 a 5))) (P := (((mxT 115).1 = 50 ∧ mxG h6) ∧ vp_in i3 (mxT 115).2) ∧ True) 1 rfl rfl ⟨(cA sT_115 G8 o5), trivial⟩ ?_
    obtain ⟨h10, e11⟩ : ∃ z9, z9 = mx_wi h6 115 i3.toNatClampNeg (V_15 h6 i3 (mx_i h6 a 5)) := ⟨_, rfl⟩
    rw [← e11]
    have H := H h10 e11
    have G12 : mxG h10 := e11 ▸ mxG_wi G8
    refine wp_steps (i' := 53) (ls' := [some (.ref 109), some (.ref a), some (.int i2), some (.int (i3 + 1)), some (.int (V_305 h i3))]) (st' := []) (h' := h10) (P := True) 1 rfl rfl trivial ?_
    refine wp_J (j := 20) (st' := []) rfl rfl ?_
    exact H _
def F_14_20 (a : Nat) (i2 : Int32) (z : Nat) (s : mxH) : mxH := (mx_wi (mx_wi s 116 (nI z).toNatClampNeg ((mx_i s 116 ((nI z) &&& ((nI z) - 1)).toNatClampNeg) + (V_77 s a (V_305 s (nI z))))) 115 (nI z).toNatClampNeg (V_15 (mx_wi s 116 (nI z).toNatClampNeg ((mx_i s 116 ((nI z) &&& ((nI z) - 1)).toNatClampNeg) + (V_77 s a (V_305 s (nI z))))) (nI z) (mx_i (mx_wi s 116 (nI z).toNatClampNeg ((mx_i s 116 ((nI z) &&& ((nI z) - 1)).toNatClampNeg) + (V_77 s a (V_305 s (nI z))))) a 5)))
theorem K_14_20 {a : Nat} {i2 : Int32} (z : Nat) (s : mxH) : mxK s ((F_14_20 a i2) z s) := by
  unfold F_14_20
  (try simp only []); repeat' (first | with_reducible exact mxK_rfl | with_reducible exact mxK_wi | with_reducible exact mxK_wrow | with_reducible refine mxK_ite ?_ ?_ | with_reducible refine mxK_tr ?_ mxK_wi | with_reducible refine mxK_tr ?_ mxK_wrow)
theorem lp_14_20 {d : Nat} {Q : mxO → mxH → Prop} {a : Nat} {i2 : Int32} {s0 : mxH} {n : Nat} (z0 : Nat) (G : mxG s0) (hVa : (mxT a).1 = 9) (hB : ∀ z, z0 ≤ z → z ≤ n → i2 = nI (n - 1)) (hn1 : 1 ≤ n) (hn : n < 2147483648) (hz : z0 ≤ n) (ob : ∀ z, z0 ≤ z → z < n → (vp_in ((nI z) &&& ((nI z) - 1)) 64 ∧ (cB (mx_i (fz (F_14_20 a i2) z0 z s0) (a + 7) 0) 10 ∧ (vp_in (nI z) 64 ∧ (cB (nI z) 63 ∧ True))))) (k : (vp_in i2 64 ∧ Q (.inl (some (.int (mx_i (fz (F_14_20 a i2) z0 n s0) 115 i2.toNatClampNeg)))) (fz (F_14_20 a i2) z0 n s0))) : H_14_20 (d + 1) s0 a i2 (nI z0) Q := by
  have L : ∀ (j z : Nat), z0 ≤ z → z + j = n → H_14_20 (d + 1) (fz (F_14_20 a i2) z0 z s0) a i2 (nI z) Q := by
    intro j
    induction j with
    | zero =>
      intro z hz0 hzn
      have hzn : z = n := by omega
      subst hzn
      have Gz : mxG (fz (F_14_20 a i2) z0 z s0) := mxK_G (mxK_fz (g := fun s => s) (fun z s => K_14_20 z s) z0 z s0) G
      have hBz := hB z hz0 (by omega)
      refine tr_14_20 Gz hVa ⟨fun c9 => k, fun c9 => absurd (hBz.symm ▸ nI_lt (by omega) hn) c9⟩
    | succ j ih =>
      intro z hz0 hzn
      have hih := ih (z + 1) (by omega) (by omega)
      rw [nI_succ, fz_s hz0] at hih
      have Gz : mxG (fz (F_14_20 a i2) z0 z s0) := mxK_G (mxK_fz (g := fun s => s) (fun z s => K_14_20 z s) z0 z s0) G
      have hBz := hB z hz0 (by omega)
      have hob := ob z hz0 (by omega)
      refine tr_14_20 Gz hVa ⟨fun c9 => absurd (hBz ▸ c9) (nI_nlt (by omega) (by omega)), fun c9 => ?_⟩
      obtain ⟨q0, hob⟩ := hob
      refine ⟨q0, ?_⟩
      obtain ⟨q0, hob⟩ := hob
      refine ⟨q0, ?_⟩
      obtain ⟨q0, hob⟩ := hob
      refine ⟨q0, ?_⟩
      intro h6 eh6
      subst eh6
      obtain ⟨q0, hob⟩ := hob
      refine ⟨q0, ?_⟩
      intro h10 eh10
      subst eh10
      exact hih
  have L0 := L (n - z0) z0 (Nat.le_refl _) (by omega)
  simp only [fz_0] at L0
  exact L0
