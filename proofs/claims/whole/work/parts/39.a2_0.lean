/-! 103: StoneBacks$Valley.copyFrom(LStoneBacks$Valley;)V -/
set_option maxRecDepth 8000 in
theorem tr_103_0 {d : Nat} {h : mxH} {Q : mxO → mxH → Prop} {a : Nat} {c : Nat} (G : mxG h) (hVa : (mxT a).1 = 9) (hVc : (mxT c).1 = 9) (H : ((∀ (h2 : mxH), cpR 1 7 a c h h2 → ((∀ (h6 : mxH), cpR 7 13 a c h2 h6 → ((∀ (h10 : mxH), cpR 13 15 a c h6 h10 → (∀ h13, h13 = mx_wrow h10 (a + 15) (va_cpy (mx_i h10 (c + 15)) (mx_i h10 (a + 15)) 0 0 12) → (∀ h16, h16 = mx_wi h13 a 4 (mx_i h13 c 4) → (∀ h19, h19 = mx_wi h16 a 5 (mx_i h16 c 5) → (∀ h22, h22 = mx_wi h19 a 6 (mx_i h19 c 6) → (∀ h25, h25 = mx_wi h22 a 7 (mx_i h22 c 7) → (∀ h28, h28 = mx_wi h25 a 8 (mx_i h25 c 8) → Q (.inl none) h28))))))))))))) : mx_wp (d + 1) 103 0 (mx_fr 103 [.ref a, .ref c]) [] h Q := by
  show mx_wp (d + 1) 103 0 [some (.ref a), some (.ref c)] [] h Q
  refine wp_steps (i' := 4) (ls' := [some (.ref a), some (.ref c)]) (st' := [.ref (c + 1), .ref (a + 1)]) (h' := h) (P := ((mxT a).1 = 9 ∧ mxG h) ∧ ((mxT c).1 = 9 ∧ mxG h) ∧ True) 4 rfl rfl ⟨⟨(congrArg Prod.fst (sV_0 hVa)), G⟩, ⟨(congrArg Prod.fst (sV_0 hVc)), G⟩, trivial⟩ ?_
  refine wp_call (b := false) (y' := 43) (as := [.ref (a + 1), .ref (c + 1)]) (rest := []) (P := ((mxT (a + 1)).1 = mxRc 43 ∧ mxG h)) rfl (by with_unfolding_all rfl) ⟨(congrArg Prod.fst (sV_1 hVa)), G⟩ (Nat.le_of_ble_eq_true rfl) (sp_43 G hVa hVc ?_)
  intro h2 p3
  show mx_wp (d + 1) 103 5 [some (.ref a), some (.ref c)] [] h2 Q
  have H := H h2 p3
  have G4 : mxG h2 := mxU_G p3.1 G
  refine wp_steps (i' := 9) (ls' := [some (.ref a), some (.ref c)]) (st' := [.ref (c + 7), .ref (a + 7)]) (h' := h2) (P := ((mxT a).1 = 9 ∧ mxG h2) ∧ ((mxT c).1 = 9 ∧ mxG h2) ∧ True) 4 rfl rfl ⟨⟨(congrArg Prod.fst (sV_0 hVa)), G4⟩, ⟨(congrArg Prod.fst (sV_0 hVc)), G4⟩, trivial⟩ ?_
  refine wp_call (b := false) (y' := 66) (as := [.ref (a + 7), .ref (c + 7)]) (rest := []) (P := ((mxT (a + 7)).1 = mxRc 66 ∧ mxG h2)) rfl (by with_unfolding_all rfl) ⟨(congrArg Prod.fst (sV_7 hVa)), G4⟩ (Nat.le_of_ble_eq_true rfl) (sp_66 G4 hVa hVc ?_)
  intro h6 p7
  show mx_wp (d + 1) 103 10 [some (.ref a), some (.ref c)] [] h6 Q
  have H := H h6 p7
  have G8 : mxG h6 := mxU_G p7.1 G4
  refine wp_steps (i' := 14) (ls' := [some (.ref a), some (.ref c)]) (st' := [.ref (c + 13), .ref (a + 13)]) (h' := h6) (P := ((mxT a).1 = 9 ∧ mxG h6) ∧ ((mxT c).1 = 9 ∧ mxG h6) ∧ True) 4 rfl rfl ⟨⟨(congrArg Prod.fst (sV_0 hVa)), G8⟩, ⟨(congrArg Prod.fst (sV_0 hVc)), G8⟩, trivial⟩ ?_
  refine wp_call (b := false) (y' := 1) (as := [.ref (a + 13), .ref (c + 13)]) (rest := []) (P := ((mxT (a + 13)).1 = mxRc 1 ∧ mxG h6)) rfl (by with_unfolding_all rfl) ⟨(congrArg Prod.fst (sV_13 hVa)), G8⟩ (Nat.le_of_ble_eq_true rfl) (spc_1 G8 hVa hVc ?_)
  intro h10 p11
  show mx_wp (d + 1) 103 15 [some (.ref a), some (.ref c)] [] h10 Q
  have H := H h10 p11
  have G12 : mxG h10 := mxU_G p11.1 G8
  refine wp_steps (i' := 23) (ls' := [some (.ref a), some (.ref c)]) (st' := []) (h' := mx_wrow h10 (a + 15) (va_cpy (mx_i h10 (c + 15)) (mx_i h10 (a + 15)) 0 0 12)) (P := ((mxT c).1 = 9 ∧ mxG h10) ∧ ((mxT a).1 = 9 ∧ mxG h10) ∧ ((((mxT (c + 15)).1 = 50 ∧ (mxT (a + 15)).1 = 50) ∧ mxG h10) ∧ ¬ (0 : Int32) < 0 ∧ ¬ (0 : Int32) < 0 ∧ ¬ (12 : Int32) < 0 ∧ 0 + 12 ≤ (mxT (c + 15)).2 ∧ 0 + 12 ≤ (mxT (a + 15)).2 ∧ (([] : List Value).map mx_cat).sum ≤ 8) ∧ True) 8 rfl rfl ⟨⟨(congrArg Prod.fst (sV_0 hVc)), G12⟩, ⟨(congrArg Prod.fst (sV_0 hVa)), G12⟩, (cC (sV_15 hVc) (sV_15 hVa) G12 rfl), trivial⟩ ?_
  obtain ⟨h13, e14⟩ : ∃ z9, z9 = mx_wrow h10 (a + 15) (va_cpy (mx_i h10 (c + 15)) (mx_i h10 (a + 15)) 0 0 12) := ⟨_, rfl⟩
  rw [← e14]
  have H := H h13 e14
  have G15 : mxG h13 := e14 ▸ mxG_wrow G12
  refine wp_steps (i' := 27) (ls' := [some (.ref a), some (.ref c)]) (st' := []) (h' := mx_wi h13 a 4 (mx_i h13 c 4)) (P := ((mxT c).1 = 9 ∧ mxG h13) ∧ ((mxT a).1 = 9 ∧ mxG h13) ∧ True) 4 rfl rfl ⟨⟨(congrArg Prod.fst (sV_0 hVc)), G15⟩, ⟨(congrArg Prod.fst (sV_0 hVa)), G15⟩, trivial⟩ ?_
  obtain ⟨h16, e17⟩ : ∃ z9, z9 = mx_wi h13 a 4 (mx_i h13 c 4) := ⟨_, rfl⟩
  rw [← e17]
  have H := H h16 e17
  have G18 : mxG h16 := e17 ▸ mxG_wi G15
  refine wp_steps (i' := 31) (ls' := [some (.ref a), some (.ref c)]) (st' := []) (h' := mx_wi h16 a 5 (mx_i h16 c 5)) (P := ((mxT c).1 = 9 ∧ mxG h16) ∧ ((mxT a).1 = 9 ∧ mxG h16) ∧ True) 4 rfl rfl ⟨⟨(congrArg Prod.fst (sV_0 hVc)), G18⟩, ⟨(congrArg Prod.fst (sV_0 hVa)), G18⟩, trivial⟩ ?_
  obtain ⟨h19, e20⟩ : ∃ z9, z9 = mx_wi h16 a 5 (mx_i h16 c 5) := ⟨_, rfl⟩
  rw [← e20]
  have H := H h19 e20
  have G21 : mxG h19 := e20 ▸ mxG_wi G18
  refine wp_steps (i' := 35) (ls' := [some (.ref a), some (.ref c)]) (st' := []) (h' := mx_wi h19 a 6 (mx_i h19 c 6)) (P := ((mxT c).1 = 9 ∧ mxG h19) ∧ ((mxT a).1 = 9 ∧ mxG h19) ∧ True) 4 rfl rfl ⟨⟨(congrArg Prod.fst (sV_0 hVc)), G21⟩, ⟨(congrArg Prod.fst (sV_0 hVa)), G21⟩, trivial⟩ ?_
  obtain ⟨h22, e23⟩ : ∃ z9, z9 = mx_wi h19 a 6 (mx_i h19 c 6) := ⟨_, rfl⟩
  rw [← e23]
  have H := H h22 e23
  have G24 : mxG h22 := e23 ▸ mxG_wi G21
  refine wp_steps (i' := 39) (ls' := [some (.ref a), some (.ref c)]) (st' := []) (h' := mx_wi h22 a 7 (mx_i h22 c 7)) (P := ((mxT c).1 = 9 ∧ mxG h22) ∧ ((mxT a).1 = 9 ∧ mxG h22) ∧ True) 4 rfl rfl ⟨⟨(congrArg Prod.fst (sV_0 hVc)), G24⟩, ⟨(congrArg Prod.fst (sV_0 hVa)), G24⟩, trivial⟩ ?_
  obtain ⟨h25, e26⟩ : ∃ z9, z9 = mx_wi h22 a 7 (mx_i h22 c 7) := ⟨_, rfl⟩
  rw [← e26]
  have H := H h25 e26
  have G27 : mxG h25 := e26 ▸ mxG_wi G24
  refine wp_steps (i' := 43) (ls' := [some (.ref a), some (.ref c)]) (st' := []) (h' := mx_wi h25 a 8 (mx_i h25 c 8)) (P := ((mxT c).1 = 9 ∧ mxG h25) ∧ ((mxT a).1 = 9 ∧ mxG h25) ∧ True) 4 rfl rfl ⟨⟨(congrArg Prod.fst (sV_0 hVc)), G27⟩, ⟨(congrArg Prod.fst (sV_0 hVa)), G27⟩, trivial⟩ ?_
  obtain ⟨h28, e29⟩ : ∃ z9, z9 = mx_wi h25 a 8 (mx_i h25 c 8) := ⟨_, rfl⟩
  rw [← e29]
  have H := H h28 e29
  have G30 : mxG h28 := e29 ▸ mxG_wi G27
  exact wp_end (o := .inl none) (h' := h28) (P := True) rfl rfl trivial H
/-! 114: StoneBacks$Valley.endHour()V -/
def H_114_18 (d : Nat) (h : mxH) (a : Nat) (i1 : Int32) (Q : mxO → mxH → Prop) : Prop := mx_wp d 114 18 [some (.ref a), some (.int i1)] [] h Q
set_option maxRecDepth 8000 in
theorem tr_114_0 {d : Nat} {h : mxH} {Q : mxO → mxH → Prop} {a : Nat} (G : mxG h) (hVa : (mxT a).1 = 9) (H : (∀ h1, h1 = mx_wi h a 6 (if ((mx_i h a 6) + 1) < 9999 then ((mx_i h a 6) + 1) else 9999) → ((((mx_i h1 a 6) - (mx_i h1 a 6) / 24 * 24) = 0 → (cB (mx_i h1 (a + 7) 0) 10 ∧ (∀ h6, h6 = W_81 h1 a → H_114_18 (d + 1) h6 a 0 Q))) ∧ (¬ ((mx_i h1 a 6) - (mx_i h1 a 6) / 24 * 24) = 0 → Q (.inl none) h1)))) : mx_wp (d + 1) 114 0 (mx_fr 114 [.ref a]) [] h Q := by
  show mx_wp (d + 1) 114 0 [some (.ref a), none] [] h Q
  refine wp_steps (i' := 8) (ls' := [some (.ref a), none]) (st' := []) (h' := mx_wi h a 6 (if ((mx_i h a 6) + 1) < 9999 then ((mx_i h a 6) + 1) else 9999)) (P := ((mxT a).1 = 9 ∧ mxG h) ∧ ((([.ref a] : List Value).map mx_cat).sum ≤ 8) ∧ ((mxT a).1 = 9 ∧ mxG h) ∧ True) 8 rfl rfl ⟨⟨(congrArg Prod.fst (sV_0 hVa)), G⟩, (Nat.le_of_ble_eq_true rfl), ⟨(congrArg Prod.fst (sV_0 hVa)), G⟩, trivial⟩ ?_
  obtain ⟨h1, e2⟩ : ∃ z9, z9 = mx_wi h a 6 (if ((mx_i h a 6) + 1) < 9999 then ((mx_i h a 6) + 1) else 9999) := ⟨_, rfl⟩
  rw [← e2]
  have H := H h1 e2
  have G3 : mxG h1 := e2 ▸ mxG_wi G
  refine wp_steps (i' := 12) (ls' := [some (.ref a), none]) (st' := [.int ((mx_i h1 a 6) - (mx_i h1 a 6) / 24 * 24)]) (h' := h1) (P := ((mxT a).1 = 9 ∧ mxG h1) ∧ (¬ (24 : Int32) = 0) ∧ True) 4 rfl rfl ⟨⟨(congrArg Prod.fst (sV_0 hVa)), G3⟩, (by decide), trivial⟩ ?_
  refine wp_br (P := True) (c := ¬ ((mx_i h1 a 6) - (mx_i h1 a 6) / 24 * 24) = 0) (t := 34) (st' := []) rfl rfl trivial (fun c4 => ?_) (fun c4 => ?_)
  · skip
    have H := H.2 c4
    exact wp_end (o := .inl none) (h' := h1) (P := True) rfl rfl trivial H
  · have c4 := Decidable.of_not_not c4
    have H := H.1 c4
    refine wp_steps (i' := 15) (ls' := [some (.ref a), none]) (st' := [.ref (a + 7)]) (h' := h1) (P := ((mxT a).1 = 9 ∧ mxG h1) ∧ True) 2 rfl rfl ⟨⟨(congrArg Prod.fst (sV_0 hVa)), G3⟩, trivial⟩ ?_
    obtain ⟨o5, H⟩ := H
    refine wp_call (b := false) (y' := 81) (as := [.ref (a + 7)]) (rest := []) (P := ((mxT (a + 7)).1 = mxRc 81 ∧ mxG h1)) rfl (by with_unfolding_all rfl) ⟨(congrArg Prod.fst (sV_7 hVa)), G3⟩ (Nat.le_of_ble_eq_true rfl) (sp_81 G3 hVa o5 ?_)
    show mx_wp (d + 1) 114 16 [some (.ref a), none] [] (W_81 h1 a) Q
    obtain ⟨h6, e7⟩ : ∃ z9, z9 = W_81 h1 a := ⟨_, rfl⟩
    rw [← e7]
    have H := H h6 e7
    have K9 : mxK h1 h6 := e7 ▸ KW_81
    have G8 : mxG h6 := mxK_G K9 G3
    refine wp_steps (i' := 18) (ls' := [some (.ref a), some (.int 0)]) (st' := []) (h' := h6) (P := True) 2 rfl rfl trivial ?_
    exact H 
set_option maxRecDepth 8000 in
theorem tr_114_18 {d : Nat} {h : mxH} {Q : mxO → mxH → Prop} {a : Nat} {i1 : Int32} (G : mxG h) (hVa : (mxT a).1 = 9) (H : ((i1 < (mx_i h (a + 1) 0) → (vp_in i1 6 ∧ (∀ h3, h3 = mx_wi h (a + 6) i1.toNatClampNeg ((mx_i h (a + 6) i1.toNatClampNeg) / 2) → H_114_18 (d + 1) h3 a (i1 + 1) Q))) ∧ (¬ i1 < (mx_i h (a + 1) 0) → Q (.inl none) h))) : H_114_18 (d + 1) h a i1 Q := by
  show mx_wp (d + 1) 114 18 [some (.ref a), some (.int i1)] [] h Q
  refine wp_steps (i' := 22) (ls' := [some (.ref a), some (.int i1)]) (st' := [.int (mx_i h (a + 1) 0), .int i1]) (h' := h) (P := ((mxT a).1 = 9 ∧ mxG h) ∧ ((mxT (a + 1)).1 = 5 ∧ mxG h) ∧ True) 4 rfl rfl ⟨⟨(congrArg Prod.fst (sV_0 hVa)), G⟩, ⟨(congrArg Prod.fst (sV_1 hVa)), G⟩, trivial⟩ ?_
  refine wp_br (P := True) (c := (mx_i h (a + 1) 0) ≤ i1) (t := 34) (st' := []) rfl rfl trivial (fun c1 => ?_) (fun c1 => ?_)
  · have c1 := Int32.not_lt.mpr c1
    have H := H.2 c1
    exact wp_end (o := .inl none) (h' := h) (P := True) rfl rfl trivial H
  · have c1 := Int32.not_le.mp c1
    have H := H.1 c1
    obtain ⟨o2, H⟩ := H
    refine wp_steps (i' := 32) (ls' := [some (.ref a), some (.int i1)]) (st' := []) (h' := mx_wi h (a + 6) i1.toNatClampNeg ((mx_i h (a + 6) i1.toNatClampNeg) / 2)) (P := ((mxT a).1 = 9 ∧ mxG h) ∧ ((mxT (a + 1)).1 = 5 ∧ mxG h) ∧ (((mxT (a + 6)).1 = 50 ∧ mxG h) ∧ vp_in i1 (mxT (a + 6)).2) ∧ (¬ (2 : Int32) = 0) ∧ (((mxT (a + 6)).1 = 50 ∧ mxG h) ∧ vp_in i1 (mxT (a + 6)).2) ∧ True) 9 rfl rfl ⟨⟨(congrArg Prod.fst (sV_0 hVa)), G⟩, ⟨(congrArg Prod.fst (sV_1 hVa)), G⟩, (cA (sV_6 hVa) G o2), (by decide), (cA (sV_6 hVa) G o2), trivial⟩ ?_
    obtain ⟨h3, e4⟩ : ∃ z9, z9 = mx_wi h (a + 6) i1.toNatClampNeg ((mx_i h (a + 6) i1.toNatClampNeg) / 2) := ⟨_, rfl⟩
    rw [← e4]
    have H := H h3 e4
    have G5 : mxG h3 := e4 ▸ mxG_wi G
    refine wp_steps (i' := 33) (ls' := [some (.ref a), some (.int (i1 + 1))]) (st' := []) (h' := h3) (P := True) 1 rfl rfl trivial ?_
    refine wp_J (j := 18) (st' := []) rfl rfl ?_
    exact H 
def F_114_18 (a : Nat) (z : Nat) (s : mxH) : mxH := (mx_wi s (a + 6) (nI z).toNatClampNeg ((mx_i s (a + 6) (nI z).toNatClampNeg) / 2))
theorem K_114_18 {a : Nat} (z : Nat) (s : mxH) : mxK s ((F_114_18 a) z s) := by
  unfold F_114_18
  (try simp only []); repeat' (first | with_reducible exact mxK_rfl | with_reducible exact mxK_wi | with_reducible exact mxK_wrow | with_reducible refine mxK_ite ?_ ?_ | with_reducible refine mxK_tr ?_ mxK_wi | with_reducible refine mxK_tr ?_ mxK_wrow)
theorem lp_114_18 {d : Nat} {Q : mxO → mxH → Prop} {a : Nat} {s0 : mxH} {n : Nat} (z0 : Nat) (G : mxG s0) (hVa : (mxT a).1 = 9) (hB : ∀ z, z0 ≤ z → z ≤ n → (mx_i (fz (F_114_18 a) z0 z s0) (a + 1) 0) = nI n) (hn : n < 2147483648) (hz : z0 ≤ n) (ob : ∀ z, z0 ≤ z → z < n → (vp_in (nI z) 6 ∧ True)) (k : Q (.inl none) (fz (F_114_18 a) z0 n s0)) : H_114_18 (d + 1) s0 a (nI z0) Q := by
  have L : ∀ (j z : Nat), z0 ≤ z → z + j = n → H_114_18 (d + 1) (fz (F_114_18 a) z0 z s0) a (nI z) Q := by
    intro j
    induction j with
    | zero =>
      intro z hz0 hzn
      have hzn : z = n := by omega
      subst hzn
      have Gz : mxG (fz (F_114_18 a) z0 z s0) := mxK_G (mxK_fz (g := fun s => s) (fun z s => K_114_18 z s) z0 z s0) G
      have hBz := hB z hz0 (by omega)
      refine tr_114_18 Gz hVa ⟨fun c9 => absurd (hBz ▸ c9) Int32.lt_irrefl, fun c9 => k⟩
    | succ j ih =>
      intro z hz0 hzn
      have hih := ih (z + 1) (by omega) (by omega)
      rw [nI_succ, fz_s hz0] at hih
      have Gz : mxG (fz (F_114_18 a) z0 z s0) := mxK_G (mxK_fz (g := fun s => s) (fun z s => K_114_18 z s) z0 z s0) G
      have hBz := hB z hz0 (by omega)
      have hob := ob z hz0 (by omega)
      refine tr_114_18 Gz hVa ⟨fun c9 => ?_, fun c9 => absurd (hBz.symm ▸ nI_lt (by omega) hn) c9⟩
      obtain ⟨q0, hob⟩ := hob
      refine ⟨q0, ?_⟩
      intro h3 eh3
      subst eh3
      exact hih
  have L0 := L (n - z0) z0 (Nat.le_refl _) (by omega)
  simp only [fz_0] at L0
  exact L0
/-! 117: StoneBacks$Valley.soonestTo(I)I -/
def H_117_6 (d : Nat) (h : mxH) (a : Nat) (i1 : Int32) (i2 : Int32) (i3 : Int32) (i4 : Int32) (Q : mxO → mxH → Prop) : Prop := ∀ (w5 : Option Value), mx_wp d 117 6 [some (.ref a), some (.int i1), some (.int i2), some (.int i3), some (.int i4), w5] [] h Q
set_option maxRecDepth 8000 in
theorem tr_117_0 {d : Nat} {h : mxH} {Q : mxO → mxH → Prop} {a : Nat} {i1 : Int32} (G : mxG h) (hVa : (mxT a).1 = 9) (H : H_117_6 (d + 2) h a i1 (-1) 0 0 Q) : mx_wp (d + 2) 117 0 (mx_fr 117 [.ref a, .int i1]) [] h Q := by
  show mx_wp (d + 2) 117 0 [some (.ref a), some (.int i1), none, none, none, none] [] h Q
  refine wp_steps (i' := 6) (ls' := [some (.ref a), some (.int i1), some (.int (-1)), some (.int 0), some (.int 0), none]) (st' := []) (h' := h) (P := True) 6 rfl rfl trivial ?_
  exact H _
set_option maxRecDepth 8000 in
theorem tr_117_6 {d : Nat} {h : mxH} {Q : mxO → mxH → Prop} {a : Nat} {i1 : Int32} {i2 : Int32} {i3 : Int32} {i4 : Int32} (G : mxG h) (hVa : (mxT a).1 = 9) (H : ((i4 < (mx_i h (a + 1) 0) → ((((V_49 h a i4) = 0 → (vp_in i4 6 ∧ (((mx_i h (a + 6) i4.toNatClampNeg) = 99 → True) ∧ (¬ (mx_i h (a + 6) i4.toNatClampNeg) = 99 → (cB (mx_i h (a + 7) 0) 10 ∧ True))))) ∧ (¬ (V_49 h a i4) = 0 → True)) ∧ ((((V_106 h a i4) = 0 → (cB (mx_i h (a + 7) 0) 10 ∧ vp_in i4 6 ∧ isI (mx_i h (a + 4) i4.toNatClampNeg) 12 ∧ isI i1 12 ∧ True)) ∧ (¬ (V_106 h a i4) = 0 → True)) ∧ (∀ (v3 : Int32), v3 = ((if (V_106 h a i4) = 0 then (V_116 h a i4 i1) else (-1)) : Int32) → (∀ (v4 : Int32), v4 = ((if v3 = (-1) then i2 else (if i2 = (-1) then i4 else (if v3 < i3 then i4 else i2))) : Int32) → (∀ (v5 : Int32), v5 = ((if v3 = (-1) then i3 else (if i2 = (-1) then v3 else (if v3 < i3 then v3 else i3))) : Int32) → H_117_6 (d + 2) h a i1 v4 v5 (i4 + 1) Q)))))) ∧ (¬ i4 < (mx_i h (a + 1) 0) → Q (.inl (some (.int i2))) h))) : H_117_6 (d + 2) h a i1 i2 i3 i4 Q := by
  intro w5
  show mx_wp (d + 2) 117 6 [some (.ref a), some (.int i1), some (.int i2), some (.int i3), some (.int i4), w5] [] h Q
  refine wp_steps (i' := 10) (ls' := [some (.ref a), some (.int i1), some (.int i2), some (.int i3), some (.int i4), w5]) (st' := [.int (mx_i h (a + 1) 0), .int i4]) (h' := h) (P := ((mxT a).1 = 9 ∧ mxG h) ∧ ((mxT (a + 1)).1 = 5 ∧ mxG h) ∧ True) 4 rfl rfl ⟨⟨(congrArg Prod.fst (sV_0 hVa)), G⟩, ⟨(congrArg Prod.fst (sV_1 hVa)), G⟩, trivial⟩ ?_
  refine wp_br (P := True) (c := (mx_i h (a + 1) 0) ≤ i4) (t := 37) (st' := []) rfl rfl trivial (fun c1 => ?_) (fun c1 => ?_)
  · have c1 := Int32.not_lt.mpr c1
    have H := H.2 c1
    refine wp_steps (i' := 38) (ls' := [some (.ref a), some (.int i1), some (.int i2), some (.int i3), some (.int i4), w5]) (st' := [.int i2]) (h' := h) (P := True) 1 rfl rfl trivial ?_
    exact wp_end (o := .inl (some (.int i2))) (h' := h) (P := True) rfl rfl trivial H
  · have c1 := Int32.not_le.mp c1
    have H := H.1 c1
    refine wp_steps (i' := 13) (ls' := [some (.ref a), some (.int i1), some (.int i2), some (.int i3), some (.int i4), w5]) (st' := [.int i4, .ref a]) (h' := h) (P := True) 2 rfl rfl trivial ?_
    obtain ⟨o2, H⟩ := H
    refine wp_call (b := false) (y' := 106) (as := [.ref a, .int i4]) (rest := []) (P := ((mxT a).1 = mxRc 106 ∧ mxG h)) rfl (by with_unfolding_all rfl) ⟨(congrArg Prod.fst (sV_0 hVa)), G⟩ (Nat.le_of_ble_eq_true rfl) (sp_106 G hVa o2 ?_)
    show mx_wp (d + 2) 117 14 [some (.ref a), some (.int i1), some (.int i2), some (.int i3), some (.int i4), w5] [.int (V_106 h a i4)] h Q
    have J : ∀ (v3 : Int32) (ev3 : v3 = ((if (V_106 h a i4) = 0 then (V_116 h a i4 i1) else (-1)) : Int32)), mx_wp (d + 2) 117 21 [some (.ref a), some (.int i1), some (.int i2), some (.int i3), some (.int i4), w5] [.int v3] h Q := by
      intro v3 ev3
      have H := H.2 v3 ev3
      refine wp_steps (i' := 24) (ls' := [some (.ref a), some (.int i1), some (.int i2), some (.int i3), some (.int i4), some (.int v3)]) (st' := [.int (-1), .int v3]) (h' := h) (P := True) 3 rfl rfl trivial ?_
      have J : ∀ (v4 : Int32) (v5 : Int32) (ev4 : v4 = ((if v3 = (-1) then i2 else (if i2 = (-1) then i4 else (if v3 < i3 then i4 else i2))) : Int32)) (ev5 : v5 = ((if v3 = (-1) then i3 else (if i2 = (-1) then v3 else (if v3 < i3 then v3 else i3))) : Int32)), mx_wp (d + 2) 117 35 [some (.ref a), some (.int i1), some (.int v4), some (.int v5), some (.int i4), some (.int v3)] [] h Q := by
        intro v4 v5 ev4 ev5
        have H := H v4 ev4 v5 ev5
        refine wp_steps (i' := 36) (ls' := [some (.ref a), some (.int i1), some (.int v4), some (.int v5), some (.int (i4 + 1)), some (.int v3)]) (st' := []) (h' := h) (P := True) 1 rfl rfl trivial ?_
        refine wp_J (j := 6) (st' := []) rfl rfl ?_
        exact H _
      refine wp_br (P := True) (c := v3 = (-1)) (t := 35) (st' := []) rfl rfl trivial (fun c6 => ?_) (fun c6 => ?_)
      · skip
        exact J _ _ (by rw [if_pos c6]) (by rw [if_pos c6])
      · skip
        refine wp_steps (i' := 27) (ls' := [some (.ref a), some (.int i1), some (.int i2), some (.int i3), some (.int i4), some (.int v3)]) (st' := [.int (-1), .int i2]) (h' := h) (P := True) 2 rfl rfl trivial ?_
        refine wp_br (P := True) (c := i2 = (-1)) (t := 31) (st' := []) rfl rfl trivial (fun c7 => ?_) (fun c7 => ?_)
        · skip
          refine wp_steps (i' := 35) (ls' := [some (.ref a), some (.int i1), some (.int i4), some (.int v3), some (.int i4), some (.int v3)]) (st' := []) (h' := h) (P := True) 4 rfl rfl trivial ?_
          exact J _ _ (by rw [if_neg c6, if_pos c7]) (by rw [if_neg c6, if_pos c7])
        · skip
          refine wp_steps (i' := 30) (ls' := [some (.ref a), some (.int i1), some (.int i2), some (.int i3), some (.int i4), some (.int v3)]) (st' := [.int i3, .int v3]) (h' := h) (P := True) 2 rfl rfl trivial ?_
          refine wp_br (P := True) (c := i3 ≤ v3) (t := 35) (st' := []) rfl rfl trivial (fun c8 => ?_) (fun c8 => ?_)
          · have c8 := Int32.not_lt.mpr c8
            exact J _ _ (by rw [if_neg c6, if_neg c7, if_neg c8]) (by rw [if_neg c6, if_neg c7, if_neg c8])
          · have c8 := Int32.not_le.mp c8
            refine wp_steps (i' := 35) (ls' := [some (.ref a), some (.int i1), some (.int i4), some (.int v3), some (.int i4), some (.int v3)]) (st' := []) (h' := h) (P := True) 4 rfl rfl trivial ?_
            exact J _ _ (by rw [if_neg c6, if_neg c7, if_pos c8]) (by rw [if_neg c6, if_neg c7, if_pos c8])
    have H := H.1
    refine wp_br (P := True) (c := (V_106 h a i4) = 0) (t := 17) (st' := []) rfl rfl trivial (fun c9 => ?_) (fun c9 => ?_)
    · skip
      have H := H.1 c9
      refine wp_steps (i' := 20) (ls' := [some (.ref a), some (.int i1), some (.int i2), some (.int i3), some (.int i4), w5]) (st' := [.int i1, .int i4, .ref a]) (h' := h) (P := True) 3 rfl rfl trivial ?_
      obtain ⟨o10, o11, o12, o13, H⟩ := H
      refine wp_call (b := false) (y' := 116) (as := [.ref a, .int i4, .int i1]) (rest := []) (P := ((mxT a).1 = mxRc 116 ∧ mxG h)) rfl (by with_unfolding_all rfl) ⟨(congrArg Prod.fst (sV_0 hVa)), G⟩ (Nat.le_of_ble_eq_true rfl) (sp_116 G hVa o10 o11 o12 o13 ?_)
      show mx_wp (d + 2) 117 21 [some (.ref a), some (.int i1), some (.int i2), some (.int i3), some (.int i4), w5] [.int (V_116 h a i4 i1)] h Q
      exact J _ (by rw [if_pos c9])
    · skip
      refine wp_steps (i' := 16) (ls' := [some (.ref a), some (.int i1), some (.int i2), some (.int i3), some (.int i4), w5]) (st' := [.int (-1)]) (h' := h) (P := True) 1 rfl rfl trivial ?_
      refine wp_J (j := 21) (st' := [.int (-1)]) rfl rfl ?_
      exact J _ (by rw [if_neg c9])
def F_117_6 (h : mxH) (a : Nat) (i1 : Int32) (z : Nat) (s : (Int32 × Int32)) : (Int32 × Int32) := (((if ((if (V_106 h a (nI z)) = 0 then (V_116 h a (nI z) i1) else (-1)) : Int32) = (-1) then s.1 else (if s.1 = (-1) then (nI z) else (if ((if (V_106 h a (nI z)) = 0 then (V_116 h a (nI z) i1) else (-1)) : Int32) < s.2 then (nI z) else s.1))) : Int32), ((if ((if (V_106 h a (nI z)) = 0 then (V_116 h a (nI z) i1) else (-1)) : Int32) = (-1) then s.2 else (if s.1 = (-1) then ((if (V_106 h a (nI z)) = 0 then (V_116 h a (nI z) i1) else (-1)) : Int32) else (if ((if (V_106 h a (nI z)) = 0 then (V_116 h a (nI z) i1) else (-1)) : Int32) < s.2 then ((if (V_106 h a (nI z)) = 0 then (V_116 h a (nI z) i1) else (-1)) : Int32) else s.2))) : Int32))
theorem lp_117_6 {d : Nat} {h : mxH} {Q : mxO → mxH → Prop} {a : Nat} {i1 : Int32} {s0 : (Int32 × Int32)} {n : Nat} (z0 : Nat) (G : mxG h) (hVa : (mxT a).1 = 9) (hB : (mx_i h (a + 1) 0) = nI n) (hn : n < 2147483648) (hz : z0 ≤ n) (ob : ∀ z, z0 ≤ z → z < n → ((((V_49 h a (nI z)) = 0 → (vp_in (nI z) 6 ∧ (((mx_i h (a + 6) (nI z).toNatClampNeg) = 99 → True) ∧ (¬ (mx_i h (a + 6) (nI z).toNatClampNeg) = 99 → (cB (mx_i h (a + 7) 0) 10 ∧ True))))) ∧ (¬ (V_49 h a (nI z)) = 0 → True)) ∧ ((((V_106 h a (nI z)) = 0 → (cB (mx_i h (a + 7) 0) 10 ∧ vp_in (nI z) 6 ∧ isI (mx_i h (a + 4) (nI z).toNatClampNeg) 12 ∧ isI i1 12 ∧ True)) ∧ (¬ (V_106 h a (nI z)) = 0 → True)) ∧ True))) (k : Q (.inl (some (.int (fz (F_117_6 h a i1) z0 n s0).1))) h) : H_117_6 (d + 2) h a i1 s0.1 s0.2 (nI z0) Q := by
  have L : ∀ (j z : Nat), z0 ≤ z → z + j = n → H_117_6 (d + 2) h a i1 (fz (F_117_6 h a i1) z0 z s0).1 (fz (F_117_6 h a i1) z0 z s0).2 (nI z) Q := by
    intro j
    induction j with
    | zero =>
      intro z hz0 hzn
      have hzn : z = n := by omega
      subst hzn
      refine tr_117_6 G hVa ⟨fun c9 => absurd (hB ▸ c9) Int32.lt_irrefl, fun c9 => k⟩
    | succ j ih =>
      intro z hz0 hzn
      have hih := ih (z + 1) (by omega) (by omega)
      rw [nI_succ, fz_s hz0] at hih
      have hob := ob z hz0 (by omega)
      refine tr_117_6 G hVa ⟨fun c9 => ?_, fun c9 => absurd (hB.symm ▸ nI_lt (by omega) hn) c9⟩
      obtain ⟨q0, hob⟩ := hob
      refine ⟨q0, ?_⟩
      obtain ⟨q0, hob⟩ := hob
      refine ⟨q0, ?_⟩
      intro v3 ev3
      subst ev3
      intro v4 ev4
      subst ev4
      intro v5 ev5
      subst ev5
      exact hih
  have L0 := L (n - z0) z0 (Nat.le_refl _) (by omega)
  simp only [fz_0] at L0
  exact L0
/-! 119: StoneBacks$Valley.hoursOfAll(I)I -/
def H_119_4 (d : Nat) (h : mxH) (a : Nat) (i1 : Int32) (i2 : Int32) (i3 : Int32) (Q : mxO → mxH → Prop) : Prop := ∀ (w4 : Option Value), mx_wp d 119 4 [some (.ref a), some (.int i1), some (.int i2), some (.int i3), w4] [] h Q
set_option maxRecDepth 8000 in
theorem tr_119_0 {d : Nat} {h : mxH} {Q : mxO → mxH → Prop} {a : Nat} {i1 : Int32} (G : mxG h) (hVa : (mxT a).1 = 9) (H : H_119_4 (d + 2) h a i1 0 0 Q) : mx_wp (d + 2) 119 0 (mx_fr 119 [.ref a, .int i1]) [] h Q := by
  show mx_wp (d + 2) 119 0 [some (.ref a), some (.int i1), none, none, none] [] h Q
  refine wp_steps (i' := 4) (ls' := [some (.ref a), some (.int i1), some (.int 0), some (.int 0), none]) (st' := []) (h' := h) (P := True) 4 rfl rfl trivial ?_
  exact H _
set_option maxRecDepth 8000 in
theorem tr_119_4 {d : Nat} {h : mxH} {Q : mxO → mxH → Prop} {a : Nat} {i1 : Int32} {i2 : Int32} {i3 : Int32} (G : mxG h) (hVa : (mxT a).1 = 9) (H : ((i3 < (mx_i h (a + 1) 0) → (cB (mx_i h (a + 7) 0) 10 ∧ vp_in i3 6 ∧ isI (mx_i h (a + 4) i3.toNatClampNeg) 12 ∧ isI i1 12 ∧ (((V_116 h a i3 i1) = (-1) → Q (.inl (some (.int (-1)))) h) ∧ (¬ (V_116 h a i3 i1) = (-1) → H_119_4 (d + 2) h a i1 (i2 + (V_116 h a i3 i1)) (i3 + 1) Q)))) ∧ (¬ i3 < (mx_i h (a + 1) 0) → Q (.inl (some (.int i2))) h))) : H_119_4 (d + 2) h a i1 i2 i3 Q := by
  intro w4
  show mx_wp (d + 2) 119 4 [some (.ref a), some (.int i1), some (.int i2), some (.int i3), w4] [] h Q
  refine wp_steps (i' := 8) (ls' := [some (.ref a), some (.int i1), some (.int i2), some (.int i3), w4]) (st' := [.int (mx_i h (a + 1) 0), .int i3]) (h' := h) (P := ((mxT a).1 = 9 ∧ mxG h) ∧ ((mxT (a + 1)).1 = 5 ∧ mxG h) ∧ True) 4 rfl rfl ⟨⟨(congrArg Prod.fst (sV_0 hVa)), G⟩, ⟨(congrArg Prod.fst (sV_1 hVa)), G⟩, trivial⟩ ?_
  refine wp_br (P := True) (c := (mx_i h (a + 1) 0) ≤ i3) (t := 25) (st' := []) rfl rfl trivial (fun c1 => ?_) (fun c1 => ?_)
  · have c1 := Int32.not_lt.mpr c1
    have H := H.2 c1
    refine wp_steps (i' := 26) (ls' := [some (.ref a), some (.int i1), some (.int i2), some (.int i3), w4]) (st' := [.int i2]) (h' := h) (P := True) 1 rfl rfl trivial ?_
    exact wp_end (o := .inl (some (.int i2))) (h' := h) (P := True) rfl rfl trivial H
  · have c1 := Int32.not_le.mp c1
    have H := H.1 c1
    refine wp_steps (i' := 12) (ls' := [some (.ref a), some (.int i1), some (.int i2), some (.int i3), w4]) (st' := [.int i1, .int i3, .ref a]) (h' := h) (P := True) 3 rfl rfl trivial ?_
    obtain ⟨o2, o3, o4, o5, H⟩ := H
    refine wp_call (b := false) (y' := 116) (as := [.ref a, .int i3, .int i1]) (rest := []) (P := ((mxT a).1 = mxRc 116 ∧ mxG h)) rfl (by with_unfolding_all rfl) ⟨(congrArg Prod.fst (sV_0 hVa)), G⟩ (Nat.le_of_ble_eq_true rfl) (sp_116 G hVa o2 o3 o4 o5 ?_)
    show mx_wp (d + 2) 119 13 [some (.ref a), some (.int i1), some (.int i2), some (.int i3), w4] [.int (V_116 h a i3 i1)] h Q
    refine wp_steps (i' := 16) (ls' := [some (.ref a), some (.int i1), some (.int i2), some (.int i3), some (.int (V_116 h a i3 i1))]) (st' := [.int (-1), .int (V_116 h a i3 i1)]) (h' := h) (P := True) 3 rfl rfl trivial ?_
    refine wp_br (P := True) (c := ¬ (V_116 h a i3 i1) = (-1)) (t := 19) (st' := []) rfl rfl trivial (fun c6 => ?_) (fun c6 => ?_)
    · skip
      have H := H.2 c6
      refine wp_steps (i' := 24) (ls' := [some (.ref a), some (.int i1), some (.int (i2 + (V_116 h a i3 i1))), some (.int (i3 + 1)), some (.int (V_116 h a i3 i1))]) (st' := []) (h' := h) (P := True) 5 rfl rfl trivial ?_
      refine wp_J (j := 4) (st' := []) rfl rfl ?_
      exact H _
    · have c6 := Decidable.of_not_not c6
      have H := H.1 c6
      refine wp_steps (i' := 18) (ls' := [some (.ref a), some (.int i1), some (.int i2), some (.int i3), some (.int (V_116 h a i3 i1))]) (st' := [.int (-1)]) (h' := h) (P := True) 1 rfl rfl trivial ?_
      exact wp_end (o := .inl (some (.int (-1)))) (h' := h) (P := True) rfl rfl trivial H
/-! 153: StoneBacks.way(II)I -/
set_option maxRecDepth 8000 in
theorem tr_153_0 {d : Nat} {h : mxH} {Q : mxO → mxH → Prop} {i1 : Int32} {i2 : Int32} {vn vd vr vq : Nat} (G : mxG h) (S : mxS h vn vd vr vq) (H : (((isI i1 (mx_i h (vn + 1) 0)) → (((isI i2 12) → (cB (mx_i h (vn + 7) 0) 10 ∧ vp_in i1 6 ∧ isI (mx_i h (vn + 4) i1.toNatClampNeg) 12 ∧ isI i2 12 ∧ Q (.inl (some (.int (V_116 h vn i1 i2)))) h)) ∧ (¬ (isI i2 12) → Q (.inr 2) (mx_ex h)))) ∧ (¬ (isI i1 (mx_i h (vn + 1) 0)) → Q (.inr 2) (mx_ex h)))) : mx_wp (d + 2) 153 0 (mx_fr 153 [.ref 100, .int i1, .int i2]) [] h Q := by
  show mx_wp (d + 2) 153 0 [some (.ref 100), some (.int i1), some (.int i2)] [] h Q
  refine wp_steps (i' := 2) (ls' := [some (.ref 100), some (.int i1), some (.int i2)]) (st' := [.int i1, .ref 100]) (h' := h) (P := True) 2 rfl rfl trivial ?_
  refine wp_call (b := false) (y' := 184) (as := [.ref 100, .int i1]) (rest := []) (P := ((mxT 100).1 = mxRc 184 ∧ mxG h)) rfl (by with_unfolding_all rfl) ⟨(congrArg Prod.fst sT_100), G⟩ (Nat.le_of_ble_eq_true rfl) (sp_184 G S (fun c1 => ?_) (fun c1 => H.2 c1))
  show mx_wp (d + 2) 153 3 [some (.ref 100), some (.int i1), some (.int i2)] [] h Q
  have H := H.1 c1
  refine wp_steps (i' := 5) (ls' := [some (.ref 100), some (.int i1), some (.int i2)]) (st' := [.int i2, .ref 100]) (h' := h) (P := True) 2 rfl rfl trivial ?_
  refine wp_call (b := false) (y' := 186) (as := [.ref 100, .int i2]) (rest := []) (P := ((mxT 100).1 = mxRc 186 ∧ mxG h)) rfl (by with_unfolding_all rfl) ⟨(congrArg Prod.fst sT_100), G⟩ (Nat.le_of_ble_eq_true rfl) (sp_186 G S (fun c2 => ?_) (fun c2 => H.2 c2))
  show mx_wp (d + 2) 153 6 [some (.ref 100), some (.int i1), some (.int i2)] [] h Q
  have H := H.1 c2
  refine wp_steps (i' := 8) (ls' := [some (.ref 100), some (.int i1), some (.int i2)]) (st' := [.ref (mx_r h 100 4)]) (h' := h) (P := ((mxT 100).1 = 10 ∧ mxG h) ∧ True) 2 rfl rfl ⟨⟨(congrArg Prod.fst sT_100), G⟩, trivial⟩ ?_
  rw [mxS_4 S]
  refine wp_steps (i' := 10) (ls' := [some (.ref 100), some (.int i1), some (.int i2)]) (st' := [.int i2, .int i1, .ref vn]) (h' := h) (P := True) 2 rfl rfl trivial ?_
  obtain ⟨o3, o4, o5, o6, H⟩ := H
  refine wp_call (b := false) (y' := 116) (as := [.ref vn, .int i1, .int i2]) (rest := []) (P := ((mxT vn).1 = mxRc 116 ∧ mxG h)) rfl (by with_unfolding_all rfl) ⟨(congrArg Prod.fst (sV_0 (mxS_vn S))), G⟩ (Nat.le_of_ble_eq_true rfl) (sp_116 G (mxS_vn S) o3 o4 o5 o6 ?_)
  show mx_wp (d + 2) 153 11 [some (.ref 100), some (.int i1), some (.int i2)] [.int (V_116 h vn i1 i2)] h Q
  exact wp_end (o := .inl (some (.int (V_116 h vn i1 i2)))) (h' := h) (P := True) rfl rfl trivial H
/-! 156: StoneBacks.shed(I)I -/
set_option maxRecDepth 8000 in
theorem tr_156_0 {d : Nat} {h : mxH} {Q : mxO → mxH → Prop} {i1 : Int32} {vn vd vr vq : Nat} (G : mxG h) (S : mxS h vn vd vr vq) (H : (((isI i1 (mx_i h (vn + 1) 0)) → (cB (mx_i h (vn + 7) 0) 10 ∧ vp_in i1 6 ∧ cB (V_71 h vn i1) 1023 ∧ Q (.inl (some (.int (V_7 h vn i1)))) h)) ∧ (¬ (isI i1 (mx_i h (vn + 1) 0)) → Q (.inr 2) (mx_ex h)))) : mx_wp (d + 3) 156 0 (mx_fr 156 [.ref 100, .int i1]) [] h Q := by
  show mx_wp (d + 3) 156 0 [some (.ref 100), some (.int i1)] [] h Q
  refine wp_steps (i' := 2) (ls' := [some (.ref 100), some (.int i1)]) (st' := [.int i1, .ref 100]) (h' := h) (P := True) 2 rfl rfl trivial ?_
  refine wp_call (b := false) (y' := 184) (as := [.ref 100, .int i1]) (rest := []) (P := ((mxT 100).1 = mxRc 184 ∧ mxG h)) rfl (by with_unfolding_all rfl) ⟨(congrArg Prod.fst sT_100), G⟩ (Nat.le_of_ble_eq_true rfl) (sp_184 G S (fun c1 => ?_) (fun c1 => H.2 c1))
  show mx_wp (d + 3) 156 3 [some (.ref 100), some (.int i1)] [] h Q
  have H := H.1 c1
  refine wp_steps (i' := 5) (ls' := [some (.ref 100), some (.int i1)]) (st' := [.ref (mx_r h 100 4)]) (h' := h) (P := ((mxT 100).1 = 10 ∧ mxG h) ∧ True) 2 rfl rfl ⟨⟨(congrArg Prod.fst sT_100), G⟩, trivial⟩ ?_
  rw [mxS_4 S]
  refine wp_steps (i' := 6) (ls' := [some (.ref 100), some (.int i1)]) (st' := [.int i1, .ref vn]) (h' := h) (P := True) 1 rfl rfl trivial ?_
  obtain ⟨o2, o3, o4, H⟩ := H
  refine wp_call (b := false) (y' := 7) (as := [.ref vn, .int i1]) (rest := []) (P := True) rfl (by with_unfolding_all rfl) trivial (Nat.le_of_ble_eq_true rfl) (sp_7 G (mxS_vn S) o2 o3 o4 ?_)
  show mx_wp (d + 3) 156 7 [some (.ref 100), some (.int i1)] [.int (V_7 h vn i1)] h Q
  exact wp_end (o := .inl (some (.int (V_7 h vn i1)))) (h' := h) (P := True) rfl rfl trivial H
/-! 161: StoneBacks.pairs()I -/
set_option maxRecDepth 8000 in
theorem tr_161_0 {d : Nat} {h : mxH} {Q : mxO → mxH → Prop} {vn vd vr vq : Nat} (G : mxG h) (S : mxS h vn vd vr vq) (H : (cB (mx_i h (vn + 1) 0) 6 ∧ cB (mx_i h (vn + 7) 0) 10 ∧ Q (.inl (some (.int (V_120 h vn)))) h)) : mx_wp (d + 2) 161 0 (mx_fr 161 [.ref 100]) [] h Q := by
  show mx_wp (d + 2) 161 0 [some (.ref 100)] [] h Q
  refine wp_steps (i' := 2) (ls' := [some (.ref 100)]) (st' := [.ref (mx_r h 100 4)]) (h' := h) (P := ((mxT 100).1 = 10 ∧ mxG h) ∧ True) 2 rfl rfl ⟨⟨(congrArg Prod.fst sT_100), G⟩, trivial⟩ ?_
  rw [mxS_4 S]
  obtain ⟨o1, o2, H⟩ := H
  refine wp_call (b := false) (y' := 120) (as := [.ref vn]) (rest := []) (P := ((mxT vn).1 = mxRc 120 ∧ mxG h)) rfl (by with_unfolding_all rfl) ⟨(congrArg Prod.fst (sV_0 (mxS_vn S))), G⟩ (Nat.le_of_ble_eq_true rfl) (sp_120 G (mxS_vn S) o1 o2 ?_)
  show mx_wp (d + 2) 161 3 [some (.ref 100)] [.int (V_120 h vn)] h Q
  exact wp_end (o := .inl (some (.int (V_120 h vn)))) (h' := h) (P := True) rfl rfl trivial H
/-! 163: StoneBacks.pays(IZ)I -/
set_option maxRecDepth 8000 in
theorem tr_163_0 {d : Nat} {h : mxH} {Q : mxO → mxH → Prop} {i1 : Int32} {i2 : Int32} {vn vd vr vq : Nat} (G : mxG h) (S : mxS h vn vd vr vq) (H : (((isI i1 (mx_i h (vn + 1) 0)) → (cB (mx_i h (vn + 7) 0) 10 ∧ vp_in i1 6 ∧ cB (V_73 h vn i1) 1023 ∧ (∀ (v5 : Int32), v5 = ((if i2 = 0 then (V_8 h vn i1) else (V_76 h vn (V_8 h vn i1))) : Int32) → Q (.inl (some (.int v5))) h))) ∧ (¬ (isI i1 (mx_i h (vn + 1) 0)) → Q (.inr 2) (mx_ex h)))) : mx_wp (d + 2) 163 0 (mx_fr 163 [.ref 100, .int i1, .int i2]) [] h Q := by
  show mx_wp (d + 2) 163 0 [some (.ref 100), some (.int i1), some (.int i2), none] [] h Q
  refine wp_steps (i' := 2) (ls' := [some (.ref 100), some (.int i1), some (.int i2), none]) (st' := [.int i1, .ref 100]) (h' := h) (P := True) 2 rfl rfl trivial ?_
  refine wp_call (b := false) (y' := 184) (as := [.ref 100, .int i1]) (rest := []) (P := ((mxT 100).1 = mxRc 184 ∧ mxG h)) rfl (by with_unfolding_all rfl) ⟨(congrArg Prod.fst sT_100), G⟩ (Nat.le_of_ble_eq_true rfl) (sp_184 G S (fun c1 => ?_) (fun c1 => H.2 c1))
  show mx_wp (d + 2) 163 3 [some (.ref 100), some (.int i1), some (.int i2), none] [] h Q
  have H := H.1 c1
  refine wp_steps (i' := 5) (ls' := [some (.ref 100), some (.int i1), some (.int i2), none]) (st' := [.ref (mx_r h 100 4)]) (h' := h) (P := ((mxT 100).1 = 10 ∧ mxG h) ∧ True) 2 rfl rfl ⟨⟨(congrArg Prod.fst sT_100), G⟩, trivial⟩ ?_
  rw [mxS_4 S]
  refine wp_steps (i' := 6) (ls' := [some (.ref 100), some (.int i1), some (.int i2), none]) (st' := [.int i1, .ref vn]) (h' := h) (P := True) 1 rfl rfl trivial ?_
  obtain ⟨o2, o3, o4, H⟩ := H
  refine wp_call (b := false) (y' := 8) (as := [.ref vn, .int i1]) (rest := []) (P := True) rfl (by with_unfolding_all rfl) trivial (Nat.le_of_ble_eq_true rfl) (sp_8 G (mxS_vn S) o2 o3 o4 ?_)
  show mx_wp (d + 2) 163 7 [some (.ref 100), some (.int i1), some (.int i2), none] [.int (V_8 h vn i1)] h Q
  refine wp_steps (i' := 9) (ls' := [some (.ref 100), some (.int i1), some (.int i2), some (.int (V_8 h vn i1))]) (st' := [.int i2]) (h' := h) (P := True) 2 rfl rfl trivial ?_
  have J : ∀ (v5 : Int32) (ev5 : v5 = ((if i2 = 0 then (V_8 h vn i1) else (V_76 h vn (V_8 h vn i1))) : Int32)), mx_wp (d + 2) 163 17 [some (.ref 100), some (.int i1), some (.int i2), some (.int (V_8 h vn i1))] [.int v5] h Q := by
    intro v5 ev5
    have H := H v5 ev5
    exact wp_end (o := .inl (some (.int v5))) (h' := h) (P := True) rfl rfl trivial H
  refine wp_br (P := True) (c := i2 = 0) (t := 16) (st' := []) rfl rfl trivial (fun c6 => ?_) (fun c6 => ?_)
  · skip
    refine wp_steps (i' := 17) (ls' := [some (.ref 100), some (.int i1), some (.int i2), some (.int (V_8 h vn i1))]) (st' := [.int (V_8 h vn i1)]) (h' := h) (P := True) 1 rfl rfl trivial ?_
    exact J _ (by rw [if_pos c6])
  · skip
    refine wp_steps (i' := 12) (ls' := [some (.ref 100), some (.int i1), some (.int i2), some (.int (V_8 h vn i1))]) (st' := [.ref (mx_r h 100 4)]) (h' := h) (P := ((mxT 100).1 = 10 ∧ mxG h) ∧ True) 2 rfl rfl ⟨⟨(congrArg Prod.fst sT_100), G⟩, trivial⟩ ?_
    rw [mxS_4 S]
    refine wp_steps (i' := 14) (ls' := [some (.ref 100), some (.int i1), some (.int i2), some (.int (V_8 h vn i1))]) (st' := [.int (V_8 h vn i1), .ref (vn + 7)]) (h' := h) (P := ((mxT vn).1 = 9 ∧ mxG h) ∧ True) 2 rfl rfl ⟨⟨(congrArg Prod.fst (sV_0 (mxS_vn S))), G⟩, trivial⟩ ?_
    refine wp_call (b := false) (y' := 76) (as := [.ref (vn + 7), .int (V_8 h vn i1)]) (rest := []) (P := ((mxT (vn + 7)).1 = mxRc 76 ∧ mxG h)) rfl (by with_unfolding_all rfl) ⟨(congrArg Prod.fst (sV_7 (mxS_vn S))), G⟩ (Nat.le_of_ble_eq_true rfl) (sp_76 G (mxS_vn S) o2 ?_)
    show mx_wp (d + 2) 163 15 [some (.ref 100), some (.int i1), some (.int i2), some (.int (V_8 h vn i1))] [.int (V_76 h vn (V_8 h vn i1))] h Q
    refine wp_J (j := 17) (st' := [.int (V_76 h vn (V_8 h vn i1))]) rfl rfl ?_
    exact J _ (by rw [if_neg c6])
/-! 164: StoneBacks.owes(II)Z -/
set_option maxRecDepth 8000 in
theorem tr_164_0 {d : Nat} {h : mxH} {Q : mxO → mxH → Prop} {i1 : Int32} {i2 : Int32} {vn vd vr vq : Nat} (G : mxG h) (S : mxS h vn vd vr vq) (H : (((isI i1 (mx_i h (vn + 1) 0)) → (((isI i2 (mx_i h (vn + 1) 0)) → ((i1 = i2 → Q (.inr 0) (mx_ex h)) ∧ (¬ i1 = i2 → (cB (mx_i h (vn + 7) 0) 10 ∧ (∀ (v5 : Int32), v5 = ((if (((V_82 h vn i1) >>> (i2 &&& 31)) &&& 1) = 1 then 1 else 0) : Int32) → Q (.inl (some (.int v5))) h))))) ∧ (¬ (isI i2 (mx_i h (vn + 1) 0)) → Q (.inr 2) (mx_ex h)))) ∧ (¬ (isI i1 (mx_i h (vn + 1) 0)) → Q (.inr 2) (mx_ex h)))) : mx_wp (d + 2) 164 0 (mx_fr 164 [.ref 100, .int i1, .int i2]) [] h Q := by
  show mx_wp (d + 2) 164 0 [some (.ref 100), some (.int i1), some (.int i2)] [] h Q
  refine wp_steps (i' := 2) (ls' := [some (.ref 100), some (.int i1), some (.int i2)]) (st' := [.int i1, .ref 100]) (h' := h) (P := True) 2 rfl rfl trivial ?_
  refine wp_call (b := false) (y' := 184) (as := [.ref 100, .int i1]) (rest := []) (P := ((mxT 100).1 = mxRc 184 ∧ mxG h)) rfl (by with_unfolding_all rfl) ⟨(congrArg Prod.fst sT_100), G⟩ (Nat.le_of_ble_eq_true rfl) (sp_184 G S (fun c1 => ?_) (fun c1 => H.2 c1))
  show mx_wp (d + 2) 164 3 [some (.ref 100), some (.int i1), some (.int i2)] [] h Q
  have H := H.1 c1
  refine wp_steps (i' := 5) (ls' := [some (.ref 100), some (.int i1), some (.int i2)]) (st' := [.int i2, .ref 100]) (h' := h) (P := True) 2 rfl rfl trivial ?_
  refine wp_call (b := false) (y' := 184) (as := [.ref 100, .int i2]) (rest := []) (P := ((mxT 100).1 = mxRc 184 ∧ mxG h)) rfl (by with_unfolding_all rfl) ⟨(congrArg Prod.fst sT_100), G⟩ (Nat.le_of_ble_eq_true rfl) (sp_184 G S (fun c2 => ?_) (fun c2 => H.2 c2))
  show mx_wp (d + 2) 164 6 [some (.ref 100), some (.int i1), some (.int i2)] [] h Q
  have H := H.1 c2
  refine wp_steps (i' := 8) (ls' := [some (.ref 100), some (.int i1), some (.int i2)]) (st' := [.int i2, .int i1]) (h' := h) (P := True) 2 rfl rfl trivial ?_
  refine wp_br (P := True) (c := ¬ i1 = i2) (t := 14) (st' := []) rfl rfl trivial (fun c3 => ?_) (fun c3 => ?_)
  · skip
    have H := H.2 c3
    refine wp_steps (i' := 16) (ls' := [some (.ref 100), some (.int i1), some (.int i2)]) (st' := [.ref (mx_r h 100 4)]) (h' := h) (P := ((mxT 100).1 = 10 ∧ mxG h) ∧ True) 2 rfl rfl ⟨⟨(congrArg Prod.fst sT_100), G⟩, trivial⟩ ?_
    rw [mxS_4 S]
    refine wp_steps (i' := 18) (ls' := [some (.ref 100), some (.int i1), some (.int i2)]) (st' := [.int i1, .ref (vn + 7)]) (h' := h) (P := ((mxT vn).1 = 9 ∧ mxG h) ∧ True) 2 rfl rfl ⟨⟨(congrArg Prod.fst (sV_0 (mxS_vn S))), G⟩, trivial⟩ ?_
    obtain ⟨o4, H⟩ := H
    refine wp_call (b := false) (y' := 82) (as := [.ref (vn + 7), .int i1]) (rest := []) (P := ((mxT (vn + 7)).1 = mxRc 82 ∧ mxG h)) rfl (by with_unfolding_all rfl) ⟨(congrArg Prod.fst (sV_7 (mxS_vn S))), G⟩ (Nat.le_of_ble_eq_true rfl) (sp_82 G (mxS_vn S) o4 ?_)
    show mx_wp (d + 2) 164 19 [some (.ref 100), some (.int i1), some (.int i2)] [.int (V_82 h vn i1)] h Q
    refine wp_steps (i' := 24) (ls' := [some (.ref 100), some (.int i1), some (.int i2)]) (st' := [.int 1, .int (((V_82 h vn i1) >>> (i2 &&& 31)) &&& 1)]) (h' := h) (P := True) 5 rfl rfl trivial ?_
    have J : ∀ (v5 : Int32) (ev5 : v5 = ((if (((V_82 h vn i1) >>> (i2 &&& 31)) &&& 1) = 1 then 1 else 0) : Int32)), mx_wp (d + 2) 164 28 [some (.ref 100), some (.int i1), some (.int i2)] [.int v5] h Q := by
      intro v5 ev5
      have H := H v5 ev5
      exact wp_end (o := .inl (some (.int v5))) (h' := h) (P := (v5 = 0 ∨ v5 = 1)) rfl rfl (b01 ev5 (by repeat' (first | exact Or.inl rfl | exact Or.inr rfl | split))) H
    refine wp_br (P := True) (c := ¬ (((V_82 h vn i1) >>> (i2 &&& 31)) &&& 1) = 1) (t := 27) (st' := []) rfl rfl trivial (fun c6 => ?_) (fun c6 => ?_)
    · skip
      refine wp_steps (i' := 28) (ls' := [some (.ref 100), some (.int i1), some (.int i2)]) (st' := [.int 0]) (h' := h) (P := True) 1 rfl rfl trivial ?_
      exact J _ (by rw [if_neg c6])
    · have c6 := Decidable.of_not_not c6
      refine wp_steps (i' := 26) (ls' := [some (.ref 100), some (.int i1), some (.int i2)]) (st' := [.int 1]) (h' := h) (P := True) 1 rfl rfl trivial ?_
      refine wp_J (j := 28) (st' := [.int 1]) rfl rfl ?_
      exact J _ (by rw [if_pos c6])
  · have c3 := Decidable.of_not_not c3
    have H := H.1 c3
    exact wp_end (o := .inr 0) (h' := mx_ex h) (P := mx_c h = 292 ∧ (([] : List Value).map mx_cat).sum ≤ 8) rfl rfl ⟨G.1, Nat.le_of_ble_eq_true rfl⟩ H
/-! 177: StoneBacks.led(IZ)I -/
set_option maxRecDepth 8000 in
theorem tr_177_0 {d : Nat} {h : mxH} {Q : mxO → mxH → Prop} {i1 : Int32} {i2 : Int32} {vn vd vr vq : Nat} (G : mxG h) (S : mxS h vn vd vr vq) (H : (((isI i1 (mx_i h (vn + 7) 0)) → (((i2 = 0 → (cB (mx_i h (vn + 13) 0) 60 ∧ True)) ∧ (¬ i2 = 0 → (cB (mx_i h (vn + 13) 0) 60 ∧ True))) ∧ (∀ (v2 : Int32), v2 = ((if i2 = 0 then (V_4 h vn i1) else (V_5 h vn i1)) : Int32) → Q (.inl (some (.int v2))) h))) ∧ (¬ (isI i1 (mx_i h (vn + 7) 0)) → Q (.inr 2) (mx_ex h)))) : mx_wp (d + 2) 177 0 (mx_fr 177 [.ref 100, .int i1, .int i2]) [] h Q := by
  show mx_wp (d + 2) 177 0 [some (.ref 100), some (.int i1), some (.int i2)] [] h Q
  refine wp_steps (i' := 2) (ls' := [some (.ref 100), some (.int i1), some (.int i2)]) (st' := [.int i1, .ref 100]) (h' := h) (P := True) 2 rfl rfl trivial ?_
  refine wp_call (b := false) (y' := 185) (as := [.ref 100, .int i1]) (rest := []) (P := ((mxT 100).1 = mxRc 185 ∧ mxG h)) rfl (by with_unfolding_all rfl) ⟨(congrArg Prod.fst sT_100), G⟩ (Nat.le_of_ble_eq_true rfl) (sp_185 G S (fun c1 => ?_) (fun c1 => H.2 c1))
  show mx_wp (d + 2) 177 3 [some (.ref 100), some (.int i1), some (.int i2)] [] h Q
  have H := H.1 c1
  refine wp_steps (i' := 4) (ls' := [some (.ref 100), some (.int i1), some (.int i2)]) (st' := [.int i2]) (h' := h) (P := True) 1 rfl rfl trivial ?_
  have J : ∀ (v2 : Int32) (ev2 : v2 = ((if i2 = 0 then (V_4 h vn i1) else (V_5 h vn i1)) : Int32)), mx_wp (d + 2) 177 16 [some (.ref 100), some (.int i1), some (.int i2)] [.int v2] h Q := by
    intro v2 ev2
    have H := H.2 v2 ev2
    exact wp_end (o := .inl (some (.int v2))) (h' := h) (P := True) rfl rfl trivial H
  have H := H.1
  refine wp_br (P := True) (c := i2 = 0) (t := 11) (st' := []) rfl rfl trivial (fun c3 => ?_) (fun c3 => ?_)
  · skip
    have H := H.1 c3
    refine wp_steps (i' := 13) (ls' := [some (.ref 100), some (.int i1), some (.int i2)]) (st' := [.ref (mx_r h 100 4)]) (h' := h) (P := ((mxT 100).1 = 10 ∧ mxG h) ∧ True) 2 rfl rfl ⟨⟨(congrArg Prod.fst sT_100), G⟩, trivial⟩ ?_
    rw [mxS_4 S]
    refine wp_steps (i' := 15) (ls' := [some (.ref 100), some (.int i1), some (.int i2)]) (st' := [.int i1, .ref (vn + 13)]) (h' := h) (P := ((mxT vn).1 = 9 ∧ mxG h) ∧ True) 2 rfl rfl ⟨⟨(congrArg Prod.fst (sV_0 (mxS_vn S))), G⟩, trivial⟩ ?_
    obtain ⟨o4, H⟩ := H
    refine wp_call (b := false) (y' := 4) (as := [.ref (vn + 13), .int i1]) (rest := []) (P := ((mxT (vn + 13)).1 = mxRc 4 ∧ mxG h)) rfl (by with_unfolding_all rfl) ⟨(congrArg Prod.fst (sV_13 (mxS_vn S))), G⟩ (Nat.le_of_ble_eq_true rfl) (sp_4 G (mxS_vn S) o4 ?_)
    show mx_wp (d + 2) 177 16 [some (.ref 100), some (.int i1), some (.int i2)] [.int (V_4 h vn i1)] h Q
    exact J _ (by rw [if_pos c3])
  · skip
    have H := H.2 c3
    refine wp_steps (i' := 7) (ls' := [some (.ref 100), some (.int i1), some (.int i2)]) (st' := [.ref (mx_r h 100 4)]) (h' := h) (P := ((mxT 100).1 = 10 ∧ mxG h) ∧ True) 2 rfl rfl ⟨⟨(congrArg Prod.fst sT_100), G⟩, trivial⟩ ?_
    rw [mxS_4 S]
    refine wp_steps (i' := 9) (ls' := [some (.ref 100), some (.int i1), some (.int i2)]) (st' := [.int i1, .ref (vn + 13)]) (h' := h) (P := ((mxT vn).1 = 9 ∧ mxG h) ∧ True) 2 rfl rfl ⟨⟨(congrArg Prod.fst (sV_0 (mxS_vn S))), G⟩, trivial⟩ ?_
    obtain ⟨o5, H⟩ := H
    refine wp_call (b := false) (y' := 5) (as := [.ref (vn + 13), .int i1]) (rest := []) (P := ((mxT (vn + 13)).1 = mxRc 5 ∧ mxG h)) rfl (by with_unfolding_all rfl) ⟨(congrArg Prod.fst (sV_13 (mxS_vn S))), G⟩ (Nat.le_of_ble_eq_true rfl) (sp_5 G (mxS_vn S) o5 ?_)
    show mx_wp (d + 2) 177 10 [some (.ref 100), some (.int i1), some (.int i2)] [.int (V_5 h vn i1)] h Q
    refine wp_J (j := 16) (st' := [.int (V_5 h vn i1)]) rfl rfl ?_
    exact J _ (by rw [if_neg c3])
/-! 263: StoneBacksModel.way(II)I -/
set_option maxRecDepth 8000 in
theorem tr_263_0 {d : Nat} {h : mxH} {Q : mxO → mxH → Prop} {i1 : Int32} {i2 : Int32} (G : mxG h)  (H : (((V_191 (mx_i h 382) i1 (0 : Int32) ((mx_i h 382 3) - 1)) = 0 ∨ (V_191 (mx_i h 382) i1 (0 : Int32) ((mx_i h 382 3) - 1)) = 1) ∧ ((((V_200 (mx_i h 382) i1) = 0 → True) ∧ (¬ (V_200 (mx_i h 382) i1) = 0 → (((V_191 (mx_i h 382) i2 (0 : Int32) (11 : Int32)) = 0 ∨ (V_191 (mx_i h 382) i2 (0 : Int32) (11 : Int32)) = 1) ∧ True))) ∧ (∀ (v2 : Int32), v2 = ((if (V_200 (mx_i h 382) i1) = 0 then 1 else (if (V_202 (mx_i h 382) i2) = 0 then 1 else 0)) : Int32) → (∀ h3, h3 = mx_wi h 381 0 v2 → (((0 < (mx_i h3 381 0) → True) ∧ (¬ 0 < (mx_i h3 381 0) → (cB (mx_i h3 382 4) 10 ∧ vp_in ((33 + (6 * i1)) + (2 : Int32)) 769 ∧ isI (V_196 (mx_i h3 382) i1 2) 12 ∧ isI i2 12 ∧ True))) ∧ (∀ (v6 : Int32), v6 = ((if 0 < (mx_i h3 381 0) then 0 else (V_262 (mx_i h3 382) i1 i2)) : Int32) → Q (.inl (some (.int v6))) h3))))))) : mx_wp (d + 4) 263 0 (mx_fr 263 [.ref 381, .int i1, .int i2]) [] h Q := by
  show mx_wp (d + 4) 263 0 [some (.ref 381), some (.int i1), some (.int i2)] [] h Q
  refine wp_steps (i' := 3) (ls' := [some (.ref 381), some (.int i1), some (.int i2)]) (st' := [.int i1, .ref 381, .ref 381]) (h' := h) (P := True) 3 rfl rfl trivial ?_
  obtain ⟨o1, H⟩ := H
  refine wp_call (b := false) (y' := 200) (as := [.ref 381, .int i1]) (rest := [.ref 381]) (P := ((mxT 381).1 = mxRc 200 ∧ mxG h)) rfl (by with_unfolding_all rfl) ⟨(congrArg Prod.fst sT_381), G⟩ (Nat.le_of_ble_eq_true rfl) (sp_200 G o1 ?_)
  show mx_wp (d + 4) 263 4 [some (.ref 381), some (.int i1), some (.int i2)] [.int (V_200 (mx_i h 382) i1), .ref 381] h Q
  have J : ∀ (v2 : Int32) (ev2 : v2 = ((if (V_200 (mx_i h 382) i1) = 0 then 1 else (if (V_202 (mx_i h 382) i2) = 0 then 1 else 0)) : Int32)), mx_wp (d + 4) 263 11 [some (.ref 381), some (.int i1), some (.int i2)] [.int v2, .ref 381] h Q := by
    intro v2 ev2
    have H := H.2 v2 ev2
    refine wp_steps (i' := 12) (ls' := [some (.ref 381), some (.int i1), some (.int i2)]) (st' := []) (h' := mx_wi h 381 0 v2) (P := ((mxT 381).1 = 11 ∧ mxG h) ∧ True) 1 rfl rfl ⟨⟨(congrArg Prod.fst sT_381), G⟩, trivial⟩ ?_
    obtain ⟨h3, e4⟩ : ∃ z9, z9 = mx_wi h 381 0 v2 := ⟨_, rfl⟩
    rw [← e4]
    have H := H h3 e4
    have G5 : mxG h3 := e4 ▸ mxG_wi G
    refine wp_steps (i' := 14) (ls' := [some (.ref 381), some (.int i1), some (.int i2)]) (st' := [.int (mx_i h3 381 0)]) (h' := h3) (P := ((mxT 381).1 = 11 ∧ mxG h3) ∧ True) 2 rfl rfl ⟨⟨(congrArg Prod.fst sT_381), G5⟩, trivial⟩ ?_
    have J : ∀ (v6 : Int32) (ev6 : v6 = ((if 0 < (mx_i h3 381 0) then 0 else (V_262 (mx_i h3 382) i1 i2)) : Int32)), mx_wp (d + 4) 263 21 [some (.ref 381), some (.int i1), some (.int i2)] [.int v6] h3 Q := by
      intro v6 ev6
      have H := H.2 v6 ev6
      exact wp_end (o := .inl (some (.int v6))) (h' := h3) (P := True) rfl rfl trivial H
    have H := H.1
    refine wp_br (P := True) (c := (mx_i h3 381 0) ≤ 0) (t := 17) (st' := []) rfl rfl trivial (fun c7 => ?_) (fun c7 => ?_)
    · have c7 := Int32.not_lt.mpr c7
      have H := H.2 c7
      refine wp_steps (i' := 20) (ls' := [some (.ref 381), some (.int i1), some (.int i2)]) (st' := [.int i2, .int i1, .ref 381]) (h' := h3) (P := True) 3 rfl rfl trivial ?_
      obtain ⟨o8, o9, o10, o11, H⟩ := H
      refine wp_call (b := false) (y' := 262) (as := [.ref 381, .int i1, .int i2]) (rest := []) (P := ((mxT 381).1 = mxRc 262 ∧ mxG h3)) rfl (by with_unfolding_all rfl) ⟨(congrArg Prod.fst sT_381), G5⟩ (Nat.le_of_ble_eq_true rfl) (sp_262 G5 o8 o9 o10 o11 ?_)
      show mx_wp (d + 4) 263 21 [some (.ref 381), some (.int i1), some (.int i2)] [.int (V_262 (mx_i h3 382) i1 i2)] h3 Q
      exact J _ (by rw [if_neg c7])
    · have c7 := Int32.not_le.mp c7
      refine wp_steps (i' := 16) (ls' := [some (.ref 381), some (.int i1), some (.int i2)]) (st' := [.int 0]) (h' := h3) (P := True) 1 rfl rfl trivial ?_
      refine wp_J (j := 21) (st' := [.int 0]) rfl rfl ?_
      exact J _ (by rw [if_pos c7])
  have H := H.1
  refine wp_br (P := True) (c := (V_200 (mx_i h 382) i1) = 0) (t := 8) (st' := [.ref 381]) rfl rfl trivial (fun c12 => ?_) (fun c12 => ?_)
  · skip
    refine wp_steps (i' := 9) (ls' := [some (.ref 381), some (.int i1), some (.int i2)]) (st' := [.int 1, .ref 381]) (h' := h) (P := True) 1 rfl rfl trivial ?_
    refine wp_J (j := 11) (st' := [.int 1, .ref 381]) rfl rfl ?_
    exact J _ (by rw [if_pos c12])
  · skip
    have H := H.2 c12
    refine wp_steps (i' := 6) (ls' := [some (.ref 381), some (.int i1), some (.int i2)]) (st' := [.int i2, .ref 381]) (h' := h) (P := True) 1 rfl rfl trivial ?_
    obtain ⟨o13, H⟩ := H
    refine wp_call (b := false) (y' := 202) (as := [.int i2]) (rest := [.ref 381]) (P := True) rfl (by with_unfolding_all rfl) trivial (Nat.le_of_ble_eq_true rfl) (sp_202 G o13 ?_)
    show mx_wp (d + 4) 263 7 [some (.ref 381), some (.int i1), some (.int i2)] [.int (V_202 (mx_i h 382) i2), .ref 381] h Q
    refine wp_br (P := True) (c := ¬ (V_202 (mx_i h 382) i2) = 0) (t := 10) (st' := [.ref 381]) rfl rfl trivial (fun c14 => ?_) (fun c14 => ?_)
    · skip
      refine wp_steps (i' := 11) (ls' := [some (.ref 381), some (.int i1), some (.int i2)]) (st' := [.int 0, .ref 381]) (h' := h) (P := True) 1 rfl rfl trivial ?_
      exact J _ (by rw [if_neg c12, if_neg c14])
    · have c14 := Decidable.of_not_not c14
      refine wp_steps (i' := 9) (ls' := [some (.ref 381), some (.int i1), some (.int i2)]) (st' := [.int 1, .ref 381]) (h' := h) (P := True) 1 rfl rfl trivial ?_
      refine wp_J (j := 11) (st' := [.int 1, .ref 381]) rfl rfl ?_
      exact J _ (by rw [if_neg c12, if_pos c14])
def V_263 (h : mxH) (i1 : Int32) (i2 : Int32) : Int32 := ((if 0 < (mx_i (mx_wi h 381 0 ((if (V_200 (mx_i h 382) i1) = 0 then 1 else (if (V_202 (mx_i h 382) i2) = 0 then 1 else 0)) : Int32)) 381 0) then 0 else (V_262 (mx_i (mx_wi h 381 0 ((if (V_200 (mx_i h 382) i1) = 0 then 1 else (if (V_202 (mx_i h 382) i2) = 0 then 1 else 0)) : Int32)) 382) i1 i2)) : Int32)
def W_263 (h : mxH) (i1 : Int32) (i2 : Int32) : mxH := (mx_wi h 381 0 ((if (V_200 (mx_i h 382) i1) = 0 then 1 else (if (V_202 (mx_i h 382) i2) = 0 then 1 else 0)) : Int32))
theorem KW_263 {h : mxH} {i1 : Int32} {i2 : Int32} : mxK h (W_263 h i1 i2) := by
  unfold W_263
  repeat' (first | with_reducible exact mxK_rfl | with_reducible exact mxK_wi | with_reducible exact mxK_wrow | with_reducible refine mxK_ite ?_ ?_ | with_reducible refine mxK_tr ?_ mxK_wi | with_reducible refine mxK_tr ?_ mxK_wrow)
theorem sp_263 {d : Nat} {h : mxH} {Q : mxO → mxH → Prop} {i1 : Int32} {i2 : Int32} (G : mxG h)  (x0 : ((V_191 (mx_i h 382) i1 (0 : Int32) ((mx_i h 382 3) - 1)) = 0 ∨ (V_191 (mx_i h 382) i1 (0 : Int32) ((mx_i h 382 3) - 1)) = 1)) (x1 : (((V_200 (mx_i h 382) i1) = 0 → True) ∧ (¬ (V_200 (mx_i h 382) i1) = 0 → (((V_191 (mx_i h 382) i2 (0 : Int32) (11 : Int32)) = 0 ∨ (V_191 (mx_i h 382) i2 (0 : Int32) (11 : Int32)) = 1) ∧ True)))) (x2 : ((0 < (mx_i (mx_wi h 381 0 ((if (V_200 (mx_i h 382) i1) = 0 then 1 else (if (V_202 (mx_i h 382) i2) = 0 then 1 else 0)) : Int32)) 381 0) → True) ∧ (¬ 0 < (mx_i (mx_wi h 381 0 ((if (V_200 (mx_i h 382) i1) = 0 then 1 else (if (V_202 (mx_i h 382) i2) = 0 then 1 else 0)) : Int32)) 381 0) → (cB (mx_i (mx_wi h 381 0 ((if (V_200 (mx_i h 382) i1) = 0 then 1 else (if (V_202 (mx_i h 382) i2) = 0 then 1 else 0)) : Int32)) 382 4) 10 ∧ vp_in ((33 + (6 * i1)) + (2 : Int32)) 769 ∧ isI (V_196 (mx_i (mx_wi h 381 0 ((if (V_200 (mx_i h 382) i1) = 0 then 1 else (if (V_202 (mx_i h 382) i2) = 0 then 1 else 0)) : Int32)) 382) i1 2) 12 ∧ isI i2 12 ∧ True)))) (k : Q (.inl (some (.int (V_263 h i1 i2)))) (W_263 h i1 i2)) : mx_wp (d + 4) 263 0 (mx_fr 263 [.ref 381, .int i1, .int i2]) [] h Q := by
  unfold V_263 W_263 at k
  have hob : (((V_191 (mx_i h 382) i1 (0 : Int32) ((mx_i h 382 3) - 1)) = 0 ∨ (V_191 (mx_i h 382) i1 (0 : Int32) ((mx_i h 382 3) - 1)) = 1) ∧ ((((V_200 (mx_i h 382) i1) = 0 → True) ∧ (¬ (V_200 (mx_i h 382) i1) = 0 → (((V_191 (mx_i h 382) i2 (0 : Int32) (11 : Int32)) = 0 ∨ (V_191 (mx_i h 382) i2 (0 : Int32) (11 : Int32)) = 1) ∧ True))) ∧ (((0 < (mx_i (mx_wi h 381 0 ((if (V_200 (mx_i h 382) i1) = 0 then 1 else (if (V_202 (mx_i h 382) i2) = 0 then 1 else 0)) : Int32)) 381 0) → True) ∧ (¬ 0 < (mx_i (mx_wi h 381 0 ((if (V_200 (mx_i h 382) i1) = 0 then 1 else (if (V_202 (mx_i h 382) i2) = 0 then 1 else 0)) : Int32)) 381 0) → (cB (mx_i (mx_wi h 381 0 ((if (V_200 (mx_i h 382) i1) = 0 then 1 else (if (V_202 (mx_i h 382) i2) = 0 then 1 else 0)) : Int32)) 382 4) 10 ∧ vp_in ((33 + (6 * i1)) + (2 : Int32)) 769 ∧ isI (V_196 (mx_i (mx_wi h 381 0 ((if (V_200 (mx_i h 382) i1) = 0 then 1 else (if (V_202 (mx_i h 382) i2) = 0 then 1 else 0)) : Int32)) 382) i1 2) 12 ∧ isI i2 12 ∧ True))) ∧ True))) := ⟨x0, ⟨x1, ⟨x2, trivial⟩⟩⟩
  refine tr_263_0 G  ?_
  obtain ⟨q0, hob⟩ := hob
  refine ⟨q0, ?_⟩
  obtain ⟨q0, hob⟩ := hob
  refine ⟨q0, ?_⟩
  intro v2 ev2
  subst ev2
  intro h3 eh3
  subst eh3
  obtain ⟨q0, hob⟩ := hob
  refine ⟨q0, ?_⟩
  intro v6 ev6
  subst ev6
  exact k
/-! 264: StoneBacksModel.soonest(I)I -/
def H_264_12 (d : Nat) (h : mxH) (i1 : Int32) (i2 : Int32) (i3 : Int32) (Q : mxO → mxH → Prop) : Prop := ∀ (w4 : Option Value), mx_wp d 264 12 [some (.ref 381), some (.int i1), some (.int i2), some (.int i3), w4] [] h Q
set_option maxRecDepth 8000 in
theorem tr_264_0 {d : Nat} {h : mxH} {Q : mxO → mxH → Prop} {i1 : Int32} (G : mxG h)  (H : (((V_191 (mx_i h 382) i1 (0 : Int32) (11 : Int32)) = 0 ∨ (V_191 (mx_i h 382) i1 (0 : Int32) (11 : Int32)) = 1) ∧ (∀ (v2 : Int32), v2 = ((if (V_202 (mx_i h 382) i1) = 0 then 1 else 0) : Int32) → (∀ h3, h3 = mx_wi h 381 0 v2 → H_264_12 (d + 4) h3 i1 (-1) 0 Q)))) : mx_wp (d + 4) 264 0 (mx_fr 264 [.ref 381, .int i1]) [] h Q := by
  show mx_wp (d + 4) 264 0 [some (.ref 381), some (.int i1), none, none, none] [] h Q
  refine wp_steps (i' := 2) (ls' := [some (.ref 381), some (.int i1), none, none, none]) (st' := [.int i1, .ref 381]) (h' := h) (P := True) 2 rfl rfl trivial ?_
  obtain ⟨o1, H⟩ := H
  refine wp_call (b := false) (y' := 202) (as := [.int i1]) (rest := [.ref 381]) (P := True) rfl (by with_unfolding_all rfl) trivial (Nat.le_of_ble_eq_true rfl) (sp_202 G o1 ?_)
  show mx_wp (d + 4) 264 3 [some (.ref 381), some (.int i1), none, none, none] [.int (V_202 (mx_i h 382) i1), .ref 381] h Q
  have J : ∀ (v2 : Int32) (ev2 : v2 = ((if (V_202 (mx_i h 382) i1) = 0 then 1 else 0) : Int32)), mx_wp (d + 4) 264 7 [some (.ref 381), some (.int i1), none, none, none] [.int v2, .ref 381] h Q := by
    intro v2 ev2
    have H := H v2 ev2
    refine wp_steps (i' := 8) (ls' := [some (.ref 381), some (.int i1), none, none, none]) (st' := []) (h' := mx_wi h 381 0 v2) (P := ((mxT 381).1 = 11 ∧ mxG h) ∧ True) 1 rfl rfl ⟨⟨(congrArg Prod.fst sT_381), G⟩, trivial⟩ ?_
    obtain ⟨h3, e4⟩ : ∃ z9, z9 = mx_wi h 381 0 v2 := ⟨_, rfl⟩
    rw [← e4]
    have H := H h3 e4
    have G5 : mxG h3 := e4 ▸ mxG_wi G
    refine wp_steps (i' := 12) (ls' := [some (.ref 381), some (.int i1), some (.int (-1)), some (.int 0), none]) (st' := []) (h' := h3) (P := True) 4 rfl rfl trivial ?_
    exact H _
  refine wp_br (P := True) (c := ¬ (V_202 (mx_i h 382) i1) = 0) (t := 6) (st' := [.ref 381]) rfl rfl trivial (fun c6 => ?_) (fun c6 => ?_)
  · skip
    refine wp_steps (i' := 7) (ls' := [some (.ref 381), some (.int i1), none, none, none]) (st' := [.int 0, .ref 381]) (h' := h) (P := True) 1 rfl rfl trivial ?_
    exact J _ (by rw [if_neg c6])
  · have c6 := Decidable.of_not_not c6
    refine wp_steps (i' := 5) (ls' := [some (.ref 381), some (.int i1), none, none, none]) (st' := [.int 1, .ref 381]) (h' := h) (P := True) 1 rfl rfl trivial ?_
    refine wp_J (j := 7) (st' := [.int 1, .ref 381]) rfl rfl ?_
    exact J _ (by rw [if_pos c6])
set_option maxRecDepth 8000 in
theorem tr_264_12 {d : Nat} {h : mxH} {Q : mxO → mxH → Prop}  {i1 : Int32} {i2 : Int32} {i3 : Int32} (G : mxG h)  (H : ((i3 < (mx_i h 382 3) → (((mx_i h 381 0) = 0 → (cB (mx_i h 382 4) 10 ∧ vp_in ((33 + (6 * i3)) + (1 : Int32)) 769 ∧ (((V_196 (mx_i h 382) i3 (1 : Int32)) < (V_205 (mx_i h 382) i3) → True) ∧ (¬ (V_196 (mx_i h 382) i3 (1 : Int32)) < (V_205 (mx_i h 382) i3) → (vp_in ((33 + (6 * i3)) + (4 : Int32)) 769 ∧ (((V_196 (mx_i h 382) i3 (4 : Int32)) = 99 → True) ∧ (¬ (V_196 (mx_i h 382) i3 (4 : Int32)) = 99 → (vp_in ((33 + (6 * i3)) + (5 : Int32)) 769 ∧ True)))))) ∧ ((((V_206 (mx_i h 382) i3) = 0 → (vp_in ((33 + (6 * i3)) + (2 : Int32)) 769 ∧ isI (V_196 (mx_i h 382) i3 2) 12 ∧ isI i1 12 ∧ True)) ∧ (¬ (V_206 (mx_i h 382) i3) = 0 → True)) ∧ (∀ (v10 : Int32), v10 = ((if (V_206 (mx_i h 382) i3) = 0 then (V_262 (mx_i h 382) i3 i1) else (-1)) : Int32) → (((v10 = (-1) → True) ∧ (¬ v10 = (-1) → ((i2 = (-1) → True) ∧ (¬ i2 = (-1) → (vp_in ((33 + (6 * i2)) + (2 : Int32)) 769 ∧ isI (V_196 (mx_i h 382) i2 2) 12 ∧ isI i1 12 ∧ True))))) ∧ (∀ (v11 : Int32), v11 = ((if v10 = (-1) then i2 else (if i2 = (-1) then i3 else (if v10 < (V_262 (mx_i h 382) i2 i1) then i3 else i2))) : Int32) → H_264_12 (d + 4) h i1 v11 (i3 + 1) Q)))))) ∧ (¬ (mx_i h 381 0) = 0 → (∀ (v5 : Int32), v5 = ((if 0 < (mx_i h 381 0) then 0 else i2) : Int32) → Q (.inl (some (.int v5))) h)))) ∧ (¬ i3 < (mx_i h 382 3) → (∀ (v2 : Int32), v2 = ((if 0 < (mx_i h 381 0) then 0 else i2) : Int32) → Q (.inl (some (.int v2))) h)))) : H_264_12 (d + 4) h i1 i2 i3 Q := by
  intro w4
  show mx_wp (d + 4) 264 12 [some (.ref 381), some (.int i1), some (.int i2), some (.int i3), w4] [] h Q
  refine wp_steps (i' := 17) (ls' := [some (.ref 381), some (.int i1), some (.int i2), some (.int i3), w4]) (st' := [.int (mx_i h 382 3), .int i3]) (h' := h) (P := ((mxT 381).1 = 11 ∧ mxG h) ∧ (((mxT 382).1 = 50 ∧ mxG h) ∧ vp_in 3 (mxT 382).2) ∧ True) 5 rfl rfl ⟨⟨(congrArg Prod.fst sT_381), G⟩, (cA sT_382 G (vpl rfl)), trivial⟩ ?_
  refine wp_br (P := True) (c := (mx_i h 382 3) ≤ i3) (t := 48) (st' := []) rfl rfl trivial (fun c1 => ?_) (fun c1 => ?_)
  · have c1 := Int32.not_lt.mpr c1
    have H := H.2 c1
    refine wp_steps (i' := 50) (ls' := [some (.ref 381), some (.int i1), some (.int i2), some (.int i3), w4]) (st' := [.int (mx_i h 381 0)]) (h' := h) (P := ((mxT 381).1 = 11 ∧ mxG h) ∧ True) 2 rfl rfl ⟨⟨(congrArg Prod.fst sT_381), G⟩, trivial⟩ ?_
    have J : ∀ (v2 : Int32) (ev2 : v2 = ((if 0 < (mx_i h 381 0) then 0 else i2) : Int32)), mx_wp (d + 4) 264 54 [some (.ref 381), some (.int i1), some (.int i2), some (.int i3), w4] [.int v2] h Q := by
      intro v2 ev2
      have H := H v2 ev2
      exact wp_end (o := .inl (some (.int v2))) (h' := h) (P := True) rfl rfl trivial H
    refine wp_br (P := True) (c := (mx_i h 381 0) ≤ 0) (t := 53) (st' := []) rfl rfl trivial (fun c3 => ?_) (fun c3 => ?_)
    · have c3 := Int32.not_lt.mpr c3
      refine wp_steps (i' := 54) (ls' := [some (.ref 381), some (.int i1), some (.int i2), some (.int i3), w4]) (st' := [.int i2]) (h' := h) (P := True) 1 rfl rfl trivial ?_
      exact J _ (by rw [if_neg c3])
    · have c3 := Int32.not_le.mp c3
      refine wp_steps (i' := 52) (ls' := [some (.ref 381), some (.int i1), some (.int i2), some (.int i3), w4]) (st' := [.int 0]) (h' := h) (P := True) 1 rfl rfl trivial ?_
      refine wp_J (j := 54) (st' := [.int 0]) rfl rfl ?_
      exact J _ (by rw [if_pos c3])
  · have c1 := Int32.not_le.mp c1
    have H := H.1 c1
    refine wp_steps (i' := 20) (ls' := [some (.ref 381), some (.int i1), some (.int i2), some (.int i3), w4]) (st' := [.int (mx_i h 381 0)]) (h' := h) (P := ((mxT 381).1 = 11 ∧ mxG h) ∧ True) 2 rfl rfl ⟨⟨(congrArg Prod.fst sT_381), G⟩, trivial⟩ ?_
    refine wp_br (P := True) (c := ¬ (mx_i h 381 0) = 0) (t := 48) (st' := []) rfl rfl trivial (fun c4 => ?_) (fun c4 => ?_)
    · skip
      have H := H.2 c4
      refine wp_steps (i' := 50) (ls' := [some (.ref 381), some (.int i1), some (.int i2), some (.int i3), w4]) (st' := [.int (mx_i h 381 0)]) (h' := h) (P := ((mxT 381).1 = 11 ∧ mxG h) ∧ True) 2 rfl rfl ⟨⟨(congrArg Prod.fst sT_381), G⟩, trivial⟩ ?_
      have J : ∀ (v5 : Int32) (ev5 : v5 = ((if 0 < (mx_i h 381 0) then 0 else i2) : Int32)), mx_wp (d + 4) 264 54 [some (.ref 381), some (.int i1), some (.int i2), some (.int i3), w4] [.int v5] h Q := by
        intro v5 ev5
        have H := H v5 ev5
        exact wp_end (o := .inl (some (.int v5))) (h' := h) (P := True) rfl rfl trivial H
      refine wp_br (P := True) (c := (mx_i h 381 0) ≤ 0) (t := 53) (st' := []) rfl rfl trivial (fun c6 => ?_) (fun c6 => ?_)
      · have c6 := Int32.not_lt.mpr c6
        refine wp_steps (i' := 54) (ls' := [some (.ref 381), some (.int i1), some (.int i2), some (.int i3), w4]) (st' := [.int i2]) (h' := h) (P := True) 1 rfl rfl trivial ?_
        exact J _ (by rw [if_neg c6])
      · have c6 := Int32.not_le.mp c6
        refine wp_steps (i' := 52) (ls' := [some (.ref 381), some (.int i1), some (.int i2), some (.int i3), w4]) (st' := [.int 0]) (h' := h) (P := True) 1 rfl rfl trivial ?_
        refine wp_J (j := 54) (st' := [.int 0]) rfl rfl ?_
        exact J _ (by rw [if_pos c6])
    · have c4 := Decidable.of_not_not c4
      have H := H.1 c4
      refine wp_steps (i' := 23) (ls' := [some (.ref 381), some (.int i1), some (.int i2), some (.int i3), w4]) (st' := [.int i3, .ref 381]) (h' := h) (P := True) 2 rfl rfl trivial ?_
      obtain ⟨o7, o8, o9, H⟩ := H
      refine wp_call (b := false) (y' := 206) (as := [.ref 381, .int i3]) (rest := []) (P := ((mxT 381).1 = mxRc 206 ∧ mxG h)) rfl (by with_unfolding_all rfl) ⟨(congrArg Prod.fst sT_381), G⟩ (Nat.le_of_ble_eq_true rfl) (sp_206 G o7 o8 o9 ?_)
      show mx_wp (d + 4) 264 24 [some (.ref 381), some (.int i1), some (.int i2), some (.int i3), w4] [.int (V_206 (mx_i h 382) i3)] h Q
      have J : ∀ (v10 : Int32) (ev10 : v10 = ((if (V_206 (mx_i h 382) i3) = 0 then (V_262 (mx_i h 382) i3 i1) else (-1)) : Int32)), mx_wp (d + 4) 264 31 [some (.ref 381), some (.int i1), some (.int i2), some (.int i3), w4] [.int v10] h Q := by
        intro v10 ev10
        have H := H.2 v10 ev10
        refine wp_steps (i' := 34) (ls' := [some (.ref 381), some (.int i1), some (.int i2), some (.int i3), some (.int v10)]) (st' := [.int (-1), .int v10]) (h' := h) (P := True) 3 rfl rfl trivial ?_
        have J : ∀ (v11 : Int32) (ev11 : v11 = ((if v10 = (-1) then i2 else (if i2 = (-1) then i3 else (if v10 < (V_262 (mx_i h 382) i2 i1) then i3 else i2))) : Int32)), mx_wp (d + 4) 264 46 [some (.ref 381), some (.int i1), some (.int v11), some (.int i3), some (.int v10)] [] h Q := by
          intro v11 ev11
          have H := H.2 v11 ev11
          refine wp_steps (i' := 47) (ls' := [some (.ref 381), some (.int i1), some (.int v11), some (.int (i3 + 1)), some (.int v10)]) (st' := []) (h' := h) (P := True) 1 rfl rfl trivial ?_
          refine wp_J (j := 12) (st' := []) rfl rfl ?_
          exact H _
        have H := H.1
        refine wp_br (P := True) (c := v10 = (-1)) (t := 46) (st' := []) rfl rfl trivial (fun c12 => ?_) (fun c12 => ?_)
        · skip
          exact J _ (by rw [if_pos c12])
        · skip
          have H := H.2 c12
          refine wp_steps (i' := 37) (ls' := [some (.ref 381), some (.int i1), some (.int i2), some (.int i3), some (.int v10)]) (st' := [.int (-1), .int i2]) (h' := h) (P := True) 2 rfl rfl trivial ?_
          refine wp_br (P := True) (c := i2 = (-1)) (t := 44) (st' := []) rfl rfl trivial (fun c13 => ?_) (fun c13 => ?_)
          · skip
            refine wp_steps (i' := 46) (ls' := [some (.ref 381), some (.int i1), some (.int i3), some (.int i3), some (.int v10)]) (st' := []) (h' := h) (P := True) 2 rfl rfl trivial ?_
            exact J _ (by rw [if_neg c12, if_pos c13])
          · skip
            have H := H.2 c13
            refine wp_steps (i' := 42) (ls' := [some (.ref 381), some (.int i1), some (.int i2), some (.int i3), some (.int v10)]) (st' := [.int i1, .int i2, .ref 381, .int v10]) (h' := h) (P := True) 4 rfl rfl trivial ?_
            obtain ⟨o14, o15, o16, H⟩ := H
            refine wp_call (b := false) (y' := 262) (as := [.ref 381, .int i2, .int i1]) (rest := [.int v10]) (P := ((mxT 381).1 = mxRc 262 ∧ mxG h)) rfl (by with_unfolding_all rfl) ⟨(congrArg Prod.fst sT_381), G⟩ (Nat.le_of_ble_eq_true rfl) (sp_262 G o7 o14 o15 o16 ?_)
            show mx_wp (d + 4) 264 43 [some (.ref 381), some (.int i1), some (.int i2), some (.int i3), some (.int v10)] [.int (V_262 (mx_i h 382) i2 i1), .int v10] h Q
            refine wp_br (P := True) (c := (V_262 (mx_i h 382) i2 i1) ≤ v10) (t := 46) (st' := []) rfl rfl trivial (fun c17 => ?_) (fun c17 => ?_)
            · have c17 := Int32.not_lt.mpr c17
              exact J _ (by rw [if_neg c12, if_neg c13, if_neg c17])
            · have c17 := Int32.not_le.mp c17
              refine wp_steps (i' := 46) (ls' := [some (.ref 381), some (.int i1), some (.int i3), some (.int i3), some (.int v10)]) (st' := []) (h' := h) (P := True) 2 rfl rfl trivial ?_
              exact J _ (by rw [if_neg c12, if_neg c13, if_pos c17])
      have H := H.1
      refine wp_br (P := True) (c := (V_206 (mx_i h 382) i3) = 0) (t := 27) (st' := []) rfl rfl trivial (fun c18 => ?_) (fun c18 => ?_)
      · skip
        have H := H.1 c18
        refine wp_steps (i' := 30) (ls' := [some (.ref 381), some (.int i1), some (.int i2), some (.int i3), w4]) (st' := [.int i1, .int i3, .ref 381]) (h' := h) (P := True) 3 rfl rfl trivial ?_
        obtain ⟨o19, o20, o21, H⟩ := H
        refine wp_call (b := false) (y' := 262) (as := [.ref 381, .int i3, .int i1]) (rest := []) (P := ((mxT 381).1 = mxRc 262 ∧ mxG h)) rfl (by with_unfolding_all rfl) ⟨(congrArg Prod.fst sT_381), G⟩ (Nat.le_of_ble_eq_true rfl) (sp_262 G o7 o19 o20 o21 ?_)
        show mx_wp (d + 4) 264 31 [some (.ref 381), some (.int i1), some (.int i2), some (.int i3), w4] [.int (V_262 (mx_i h 382) i3 i1)] h Q
        exact J _ (by rw [if_pos c18])
      · skip
        refine wp_steps (i' := 26) (ls' := [some (.ref 381), some (.int i1), some (.int i2), some (.int i3), w4]) (st' := [.int (-1)]) (h' := h) (P := True) 1 rfl rfl trivial ?_
        refine wp_J (j := 31) (st' := [.int (-1)]) rfl rfl ?_
        exact J _ (by rw [if_neg c18])
/-! 283: StoneBacksModel.waysTo(I)I -/
def H_283_4 (d : Nat) (h : mxH) (i1 : Int32) (i2 : Int32) (i3 : Int32) (Q : mxO → mxH → Prop) : Prop := mx_wp d 283 4 [some (.ref 381), some (.int i1), some (.int i2), some (.int i3)] [] h Q
set_option maxRecDepth 8000 in
theorem tr_283_0 {d : Nat} {h : mxH} {Q : mxO → mxH → Prop} {i1 : Int32} (G : mxG h)  (H : H_283_4 (d + 4) h i1 0 0 Q) : mx_wp (d + 4) 283 0 (mx_fr 283 [.ref 381, .int i1]) [] h Q := by
  show mx_wp (d + 4) 283 0 [some (.ref 381), some (.int i1), none, none] [] h Q
  refine wp_steps (i' := 4) (ls' := [some (.ref 381), some (.int i1), some (.int 0), some (.int 0)]) (st' := []) (h' := h) (P := True) 4 rfl rfl trivial ?_
  exact H 
set_option maxRecDepth 8000 in
theorem tr_283_4 {d : Nat} {h : mxH} {Q : mxO → mxH → Prop}  {i1 : Int32} {i2 : Int32} {i3 : Int32} (G : mxG h)  (H : ((i3 < (mx_i h 382 3) → (cB (mx_i h 382 4) 10 ∧ vp_in ((33 + (6 * i3)) + (2 : Int32)) 769 ∧ isI (V_196 (mx_i h 382) i3 2) 12 ∧ isI i1 12 ∧ (((V_262 (mx_i h 382) i3 i1) = (-1) → Q (.inl (some (.int (-1)))) h) ∧ (¬ (V_262 (mx_i h 382) i3 i1) = (-1) → H_283_4 (d + 4) h i1 (i2 + (V_262 (mx_i h 382) i3 i1)) (i3 + 1) Q)))) ∧ (¬ i3 < (mx_i h 382 3) → Q (.inl (some (.int i2))) h))) : H_283_4 (d + 4) h i1 i2 i3 Q := by
  show mx_wp (d + 4) 283 4 [some (.ref 381), some (.int i1), some (.int i2), some (.int i3)] [] h Q
  refine wp_steps (i' := 9) (ls' := [some (.ref 381), some (.int i1), some (.int i2), some (.int i3)]) (st' := [.int (mx_i h 382 3), .int i3]) (h' := h) (P := ((mxT 381).1 = 11 ∧ mxG h) ∧ (((mxT 382).1 = 50 ∧ mxG h) ∧ vp_in 3 (mxT 382).2) ∧ True) 5 rfl rfl ⟨⟨(congrArg Prod.fst sT_381), G⟩, (cA sT_382 G (vpl rfl)), trivial⟩ ?_
  refine wp_br (P := True) (c := (mx_i h 382 3) ≤ i3) (t := 27) (st' := []) rfl rfl trivial (fun c1 => ?_) (fun c1 => ?_)
  · have c1 := Int32.not_lt.mpr c1
    have H := H.2 c1
    refine wp_steps (i' := 28) (ls' := [some (.ref 381), some (.int i1), some (.int i2), some (.int i3)]) (st' := [.int i2]) (h' := h) (P := True) 1 rfl rfl trivial ?_
    exact wp_end (o := .inl (some (.int i2))) (h' := h) (P := True) rfl rfl trivial H
  · have c1 := Int32.not_le.mp c1
    have H := H.1 c1
    refine wp_steps (i' := 13) (ls' := [some (.ref 381), some (.int i1), some (.int i2), some (.int i3)]) (st' := [.int i1, .int i3, .ref 381]) (h' := h) (P := True) 3 rfl rfl trivial ?_
    obtain ⟨o2, o3, o4, o5, H⟩ := H
    refine wp_call (b := false) (y' := 262) (as := [.ref 381, .int i3, .int i1]) (rest := []) (P := ((mxT 381).1 = mxRc 262 ∧ mxG h)) rfl (by with_unfolding_all rfl) ⟨(congrArg Prod.fst sT_381), G⟩ (Nat.le_of_ble_eq_true rfl) (sp_262 G o2 o3 o4 o5 ?_)
    show mx_wp (d + 4) 283 14 [some (.ref 381), some (.int i1), some (.int i2), some (.int i3)] [.int (V_262 (mx_i h 382) i3 i1)] h Q
    refine wp_steps (i' := 15) (ls' := [some (.ref 381), some (.int i1), some (.int i2), some (.int i3)]) (st' := [.int (-1), .int (V_262 (mx_i h 382) i3 i1)]) (h' := h) (P := True) 1 rfl rfl trivial ?_
    refine wp_br (P := True) (c := ¬ (V_262 (mx_i h 382) i3 i1) = (-1)) (t := 18) (st' := []) rfl rfl trivial (fun c6 => ?_) (fun c6 => ?_)
    · skip
      have H := H.2 c6
      refine wp_steps (i' := 22) (ls' := [some (.ref 381), some (.int i1), some (.int i2), some (.int i3)]) (st' := [.int i1, .int i3, .ref 381, .int i2]) (h' := h) (P := True) 4 rfl rfl trivial ?_
      refine wp_call (b := false) (y' := 262) (as := [.ref 381, .int i3, .int i1]) (rest := [.int i2]) (P := ((mxT 381).1 = mxRc 262 ∧ mxG h)) rfl (by with_unfolding_all rfl) ⟨(congrArg Prod.fst sT_381), G⟩ (Nat.le_of_ble_eq_true rfl) (sp_262 G o2 o3 o4 o5 ?_)
      show mx_wp (d + 4) 283 23 [some (.ref 381), some (.int i1), some (.int i2), some (.int i3)] [.int (V_262 (mx_i h 382) i3 i1), .int i2] h Q
      refine wp_steps (i' := 26) (ls' := [some (.ref 381), some (.int i1), some (.int (i2 + (V_262 (mx_i h 382) i3 i1))), some (.int (i3 + 1))]) (st' := []) (h' := h) (P := True) 3 rfl rfl trivial ?_
      refine wp_J (j := 4) (st' := []) rfl rfl ?_
      exact H 
    · have c6 := Decidable.of_not_not c6
      have H := H.1 c6
      refine wp_steps (i' := 17) (ls' := [some (.ref 381), some (.int i1), some (.int i2), some (.int i3)]) (st' := [.int (-1)]) (h' := h) (P := True) 1 rfl rfl trivial ?_
      exact wp_end (o := .inl (some (.int (-1)))) (h' := h) (P := True) rfl rfl trivial H
