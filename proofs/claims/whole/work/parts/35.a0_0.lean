/-! 1: StoneBacks$Book.copyFrom(LStoneBacks$Book;)V -/
set_option maxRecDepth 8000 in
theorem tr_1_0 {d : Nat} {h : mxH} {Q : mxO → mxH → Prop} {a : Nat} {c : Nat} (G : mxG h) (hVa : (mxT a).1 = 9) (hVc : (mxT c).1 = 9) (H : (∀ h1, h1 = mx_wi h (a + 13) 0 (mx_i h (c + 13) 0) → (∀ h4, h4 = mx_wrow h1 (a + 14) (va_cpy (mx_i h1 (c + 14)) (mx_i h1 (a + 14)) 0 0 240) → Q (.inl none) h4))) : mx_wp d 1 0 (mx_fr 1 [.ref (a + 13), .ref (c + 13)]) [] h Q := by
  show mx_wp d 1 0 [some (.ref (a + 13)), some (.ref (c + 13))] [] h Q
  refine wp_steps (i' := 4) (ls' := [some (.ref (a + 13)), some (.ref (c + 13))]) (st' := []) (h' := mx_wi h (a + 13) 0 (mx_i h (c + 13) 0)) (P := ((mxT (c + 13)).1 = 1 ∧ mxG h) ∧ ((mxT (a + 13)).1 = 1 ∧ mxG h) ∧ True) 4 rfl rfl ⟨⟨(congrArg Prod.fst (sV_13 hVc)), G⟩, ⟨(congrArg Prod.fst (sV_13 hVa)), G⟩, trivial⟩ ?_
  obtain ⟨h1, e2⟩ : ∃ z9, z9 = mx_wi h (a + 13) 0 (mx_i h (c + 13) 0) := ⟨_, rfl⟩
  rw [← e2]
  have H := H h1 e2
  have G3 : mxG h1 := e2 ▸ mxG_wi G
  refine wp_steps (i' := 13) (ls' := [some (.ref (a + 13)), some (.ref (c + 13))]) (st' := [.int (nI (mxT (a + 14)).2), .int 0, .ref (a + 14), .int 0, .ref (c + 14)]) (h' := h1) (P := ((mxT (c + 13)).1 = 1 ∧ mxG h1) ∧ ((mxT (a + 13)).1 = 1 ∧ mxG h1) ∧ ((mxT (a + 13)).1 = 1 ∧ mxG h1) ∧ (50 ≤ (mxT (a + 14)).1 ∧ mxG h1) ∧ True) 9 rfl rfl ⟨⟨(congrArg Prod.fst (sV_13 hVc)), G3⟩, ⟨(congrArg Prod.fst (sV_13 hVa)), G3⟩, ⟨(congrArg Prod.fst (sV_13 hVa)), G3⟩, (cL (sV_14 hVa) (by decide) G3), trivial⟩ ?_
  rw [congrArg Prod.snd (sV_14 hVa)]
  change mx_wp d 1 13 [some (.ref (a + 13)), some (.ref (c + 13))] [.int 240, .int 0, .ref (a + 14), .int 0, .ref (c + 14)] h1 Q
  refine wp_steps (i' := 14) (ls' := [some (.ref (a + 13)), some (.ref (c + 13))]) (st' := []) (h' := mx_wrow h1 (a + 14) (va_cpy (mx_i h1 (c + 14)) (mx_i h1 (a + 14)) 0 0 240)) (P := ((((mxT (c + 14)).1 = 50 ∧ (mxT (a + 14)).1 = 50) ∧ mxG h1) ∧ ¬ (0 : Int32) < 0 ∧ ¬ (0 : Int32) < 0 ∧ ¬ (240 : Int32) < 0 ∧ 0 + 240 ≤ (mxT (c + 14)).2 ∧ 0 + 240 ≤ (mxT (a + 14)).2 ∧ (([] : List Value).map mx_cat).sum ≤ 8) ∧ True) 1 rfl rfl ⟨(cC (sV_14 hVc) (sV_14 hVa) G3 rfl), trivial⟩ ?_
  obtain ⟨h4, e5⟩ : ∃ z9, z9 = mx_wrow h1 (a + 14) (va_cpy (mx_i h1 (c + 14)) (mx_i h1 (a + 14)) 0 0 240) := ⟨_, rfl⟩
  rw [← e5]
  have H := H h4 e5
  have G6 : mxG h4 := e5 ▸ mxG_wrow G3
  exact wp_end (o := .inl none) (h' := h4) (P := True) rfl rfl trivial H
def W_1 (h : mxH) (a : Nat) (c : Nat) : mxH := (mx_wrow (mx_wi h (a + 13) 0 (mx_i h (c + 13) 0)) (a + 14) (va_cpy (mx_i (mx_wi h (a + 13) 0 (mx_i h (c + 13) 0)) (c + 14)) (mx_i (mx_wi h (a + 13) 0 (mx_i h (c + 13) 0)) (a + 14)) 0 0 240))
theorem KW_1 {h : mxH} {a : Nat} {c : Nat} : mxK h (W_1 h a c) := by
  unfold W_1
  repeat' (first | with_reducible exact mxK_rfl | with_reducible exact mxK_wi | with_reducible exact mxK_wrow | with_reducible refine mxK_ite ?_ ?_ | with_reducible refine mxK_tr ?_ mxK_wi | with_reducible refine mxK_tr ?_ mxK_wrow)
theorem sp_1 {d : Nat} {h : mxH} {Q : mxO → mxH → Prop} {a : Nat} {c : Nat} (G : mxG h) (hVa : (mxT a).1 = 9) (hVc : (mxT c).1 = 9) (k : Q (.inl none) (W_1 h a c)) : mx_wp d 1 0 (mx_fr 1 [.ref (a + 13), .ref (c + 13)]) [] h Q := by
  unfold W_1 at k
  refine tr_1_0 G hVa hVc ?_
  intro h1 eh1
  subst eh1
  intro h4 eh4
  subst eh4
  exact k
/-! 2: StoneBacks$Book.addRow(IIII)V -/
set_option maxRecDepth 8000 in
theorem tr_2_0 {d : Nat} {h : mxH} {Q : mxO → mxH → Prop} {a : Nat} {i1 : Int32} {i2 : Int32} {i3 : Int32} {i4 : Int32} (G : mxG h) (hVa : (mxT a).1 = 9) (H : (((mx_i h (a + 13) 0) < 60 → (vp_in ((mx_i h (a + 13) 0) * 4) 240 ∧ (∀ h3, h3 = mx_wi h (a + 14) ((mx_i h (a + 13) 0) * 4).toNatClampNeg i1 → (vp_in (((mx_i h (a + 13) 0) * 4) + 1) 240 ∧ (∀ h7, h7 = mx_wi h3 (a + 14) (((mx_i h (a + 13) 0) * 4) + 1).toNatClampNeg i2 → (vp_in (((mx_i h (a + 13) 0) * 4) + 2) 240 ∧ (∀ h11, h11 = mx_wi h7 (a + 14) (((mx_i h (a + 13) 0) * 4) + 2).toNatClampNeg i3 → (vp_in (((mx_i h (a + 13) 0) * 4) + 3) 240 ∧ (∀ h15, h15 = mx_wi h11 (a + 14) (((mx_i h (a + 13) 0) * 4) + 3).toNatClampNeg i4 → (∀ h18, h18 = mx_wi h15 (a + 13) 0 ((mx_i h15 (a + 13) 0) + 1) → Q (.inl none) h18)))))))))) ∧ (¬ (mx_i h (a + 13) 0) < 60 → (∀ h21, h21 = mx_wrow h (a + 14) (va_cpy (mx_i h (a + 14)) (mx_i h (a + 14)) 4 0 236) → (∀ h24, h24 = mx_wi h21 (a + 13) 0 59 → (vp_in ((mx_i h24 (a + 13) 0) * 4) 240 ∧ (∀ h28, h28 = mx_wi h24 (a + 14) ((mx_i h24 (a + 13) 0) * 4).toNatClampNeg i1 → (vp_in (((mx_i h24 (a + 13) 0) * 4) + 1) 240 ∧ (∀ h32, h32 = mx_wi h28 (a + 14) (((mx_i h24 (a + 13) 0) * 4) + 1).toNatClampNeg i2 → (vp_in (((mx_i h24 (a + 13) 0) * 4) + 2) 240 ∧ (∀ h36, h36 = mx_wi h32 (a + 14) (((mx_i h24 (a + 13) 0) * 4) + 2).toNatClampNeg i3 → (vp_in (((mx_i h24 (a + 13) 0) * 4) + 3) 240 ∧ (∀ h40, h40 = mx_wi h36 (a + 14) (((mx_i h24 (a + 13) 0) * 4) + 3).toNatClampNeg i4 → (∀ h43, h43 = mx_wi h40 (a + 13) 0 ((mx_i h40 (a + 13) 0) + 1) → Q (.inl none) h43)))))))))))))) : mx_wp d 2 0 (mx_fr 2 [.ref (a + 13), .int i1, .int i2, .int i3, .int i4]) [] h Q := by
  show mx_wp d 2 0 [some (.ref (a + 13)), some (.int i1), some (.int i2), some (.int i3), some (.int i4), none] [] h Q
  refine wp_steps (i' := 3) (ls' := [some (.ref (a + 13)), some (.int i1), some (.int i2), some (.int i3), some (.int i4), none]) (st' := [.int 60, .int (mx_i h (a + 13) 0)]) (h' := h) (P := ((mxT (a + 13)).1 = 1 ∧ mxG h) ∧ True) 3 rfl rfl ⟨⟨(congrArg Prod.fst (sV_13 hVa)), G⟩, trivial⟩ ?_
  refine wp_br (P := True) (c := (mx_i h (a + 13) 0) < 60) (t := 19) (st' := []) rfl rfl trivial (fun c1 => ?_) (fun c1 => ?_)
  · skip
    have H := H.1 c1
    obtain ⟨o2, H⟩ := H
    refine wp_steps (i' := 29) (ls' := [some (.ref (a + 13)), some (.int i1), some (.int i2), some (.int i3), some (.int i4), some (.int ((mx_i h (a + 13) 0) * 4))]) (st' := []) (h' := mx_wi h (a + 14) ((mx_i h (a + 13) 0) * 4).toNatClampNeg i1) (P := ((mxT (a + 13)).1 = 1 ∧ mxG h) ∧ ((mxT (a + 13)).1 = 1 ∧ mxG h) ∧ (((mxT (a + 14)).1 = 50 ∧ mxG h) ∧ vp_in ((mx_i h (a + 13) 0) * 4) (mxT (a + 14)).2) ∧ True) 10 rfl rfl ⟨⟨(congrArg Prod.fst (sV_13 hVa)), G⟩, ⟨(congrArg Prod.fst (sV_13 hVa)), G⟩, (cA (sV_14 hVa) G o2), trivial⟩ ?_
    obtain ⟨h3, e4⟩ : ∃ z9, z9 = mx_wi h (a + 14) ((mx_i h (a + 13) 0) * 4).toNatClampNeg i1 := ⟨_, rfl⟩
    rw [← e4]
    have H := H h3 e4
    have G5 : mxG h3 := e4 ▸ mxG_wi G
    obtain ⟨o6, H⟩ := H
    refine wp_steps (i' := 36) (ls' := [some (.ref (a + 13)), some (.int i1), some (.int i2), some (.int i3), some (.int i4), some (.int ((mx_i h (a + 13) 0) * 4))]) (st' := []) (h' := mx_wi h3 (a + 14) (((mx_i h (a + 13) 0) * 4) + 1).toNatClampNeg i2) (P := ((mxT (a + 13)).1 = 1 ∧ mxG h3) ∧ (((mxT (a + 14)).1 = 50 ∧ mxG h3) ∧ vp_in (((mx_i h (a + 13) 0) * 4) + 1) (mxT (a + 14)).2) ∧ True) 7 rfl rfl ⟨⟨(congrArg Prod.fst (sV_13 hVa)), G5⟩, (cA (sV_14 hVa) G5 o6), trivial⟩ ?_
    obtain ⟨h7, e8⟩ : ∃ z9, z9 = mx_wi h3 (a + 14) (((mx_i h (a + 13) 0) * 4) + 1).toNatClampNeg i2 := ⟨_, rfl⟩
    rw [← e8]
    have H := H h7 e8
    have G9 : mxG h7 := e8 ▸ mxG_wi G5
    obtain ⟨o10, H⟩ := H
    refine wp_steps (i' := 43) (ls' := [some (.ref (a + 13)), some (.int i1), some (.int i2), some (.int i3), some (.int i4), some (.int ((mx_i h (a + 13) 0) * 4))]) (st' := []) (h' := mx_wi h7 (a + 14) (((mx_i h (a + 13) 0) * 4) + 2).toNatClampNeg i3) (P := ((mxT (a + 13)).1 = 1 ∧ mxG h7) ∧ (((mxT (a + 14)).1 = 50 ∧ mxG h7) ∧ vp_in (((mx_i h (a + 13) 0) * 4) + 2) (mxT (a + 14)).2) ∧ True) 7 rfl rfl ⟨⟨(congrArg Prod.fst (sV_13 hVa)), G9⟩, (cA (sV_14 hVa) G9 o10), trivial⟩ ?_
    obtain ⟨h11, e12⟩ : ∃ z9, z9 = mx_wi h7 (a + 14) (((mx_i h (a + 13) 0) * 4) + 2).toNatClampNeg i3 := ⟨_, rfl⟩
    rw [← e12]
    have H := H h11 e12
    have G13 : mxG h11 := e12 ▸ mxG_wi G9
    obtain ⟨o14, H⟩ := H
    refine wp_steps (i' := 50) (ls' := [some (.ref (a + 13)), some (.int i1), some (.int i2), some (.int i3), some (.int i4), some (.int ((mx_i h (a + 13) 0) * 4))]) (st' := []) (h' := mx_wi h11 (a + 14) (((mx_i h (a + 13) 0) * 4) + 3).toNatClampNeg i4) (P := ((mxT (a + 13)).1 = 1 ∧ mxG h11) ∧ (((mxT (a + 14)).1 = 50 ∧ mxG h11) ∧ vp_in (((mx_i h (a + 13) 0) * 4) + 3) (mxT (a + 14)).2) ∧ True) 7 rfl rfl ⟨⟨(congrArg Prod.fst (sV_13 hVa)), G13⟩, (cA (sV_14 hVa) G13 o14), trivial⟩ ?_
    obtain ⟨h15, e16⟩ : ∃ z9, z9 = mx_wi h11 (a + 14) (((mx_i h (a + 13) 0) * 4) + 3).toNatClampNeg i4 := ⟨_, rfl⟩
    rw [← e16]
    have H := H h15 e16
    have G17 : mxG h15 := e16 ▸ mxG_wi G13
    refine wp_steps (i' := 56) (ls' := [some (.ref (a + 13)), some (.int i1), some (.int i2), some (.int i3), some (.int i4), some (.int ((mx_i h (a + 13) 0) * 4))]) (st' := []) (h' := mx_wi h15 (a + 13) 0 ((mx_i h15 (a + 13) 0) + 1)) (P := ((mxT (a + 13)).1 = 1 ∧ mxG h15) ∧ ((mxT (a + 13)).1 = 1 ∧ mxG h15) ∧ True) 6 rfl rfl ⟨⟨(congrArg Prod.fst (sV_13 hVa)), G17⟩, ⟨(congrArg Prod.fst (sV_13 hVa)), G17⟩, trivial⟩ ?_
    obtain ⟨h18, e19⟩ : ∃ z9, z9 = mx_wi h15 (a + 13) 0 ((mx_i h15 (a + 13) 0) + 1) := ⟨_, rfl⟩
    rw [← e19]
    have H := H h18 e19
    have G20 : mxG h18 := e19 ▸ mxG_wi G17
    exact wp_end (o := .inl none) (h' := h18) (P := True) rfl rfl trivial H
  · skip
    have H := H.2 c1
    refine wp_steps (i' := 13) (ls' := [some (.ref (a + 13)), some (.int i1), some (.int i2), some (.int i3), some (.int i4), none]) (st' := [.int (nI (mxT (a + 14)).2), .int 0, .ref (a + 14), .int 4, .ref (a + 14)]) (h' := h) (P := ((mxT (a + 13)).1 = 1 ∧ mxG h) ∧ ((mxT (a + 13)).1 = 1 ∧ mxG h) ∧ ((mxT (a + 13)).1 = 1 ∧ mxG h) ∧ (50 ≤ (mxT (a + 14)).1 ∧ mxG h) ∧ True) 9 rfl rfl ⟨⟨(congrArg Prod.fst (sV_13 hVa)), G⟩, ⟨(congrArg Prod.fst (sV_13 hVa)), G⟩, ⟨(congrArg Prod.fst (sV_13 hVa)), G⟩, (cL (sV_14 hVa) (by decide) G), trivial⟩ ?_
    rw [congrArg Prod.snd (sV_14 hVa)]
    change mx_wp d 2 13 [some (.ref (a + 13)), some (.int i1), some (.int i2), some (.int i3), some (.int i4), none] [.int 240, .int 0, .ref (a + 14), .int 4, .ref (a + 14)] h Q
    refine wp_steps (i' := 16) (ls' := [some (.ref (a + 13)), some (.int i1), some (.int i2), some (.int i3), some (.int i4), none]) (st' := []) (h' := mx_wrow h (a + 14) (va_cpy (mx_i h (a + 14)) (mx_i h (a + 14)) 4 0 236)) (P := ((((mxT (a + 14)).1 = 50 ∧ (mxT (a + 14)).1 = 50) ∧ mxG h) ∧ ¬ (4 : Int32) < 0 ∧ ¬ (0 : Int32) < 0 ∧ ¬ (236 : Int32) < 0 ∧ 4 + 236 ≤ (mxT (a + 14)).2 ∧ 0 + 236 ≤ (mxT (a + 14)).2 ∧ (([] : List Value).map mx_cat).sum ≤ 8) ∧ True) 3 rfl rfl ⟨(cC (sV_14 hVa) (sV_14 hVa) G rfl), trivial⟩ ?_
    obtain ⟨h21, e22⟩ : ∃ z9, z9 = mx_wrow h (a + 14) (va_cpy (mx_i h (a + 14)) (mx_i h (a + 14)) 4 0 236) := ⟨_, rfl⟩
    rw [← e22]
    have H := H h21 e22
    have G23 : mxG h21 := e22 ▸ mxG_wrow G
    refine wp_steps (i' := 19) (ls' := [some (.ref (a + 13)), some (.int i1), some (.int i2), some (.int i3), some (.int i4), none]) (st' := []) (h' := mx_wi h21 (a + 13) 0 59) (P := ((mxT (a + 13)).1 = 1 ∧ mxG h21) ∧ True) 3 rfl rfl ⟨⟨(congrArg Prod.fst (sV_13 hVa)), G23⟩, trivial⟩ ?_
    obtain ⟨h24, e25⟩ : ∃ z9, z9 = mx_wi h21 (a + 13) 0 59 := ⟨_, rfl⟩
    rw [← e25]
    have H := H h24 e25
    have G26 : mxG h24 := e25 ▸ mxG_wi G23
    obtain ⟨o27, H⟩ := H
    refine wp_steps (i' := 29) (ls' := [some (.ref (a + 13)), some (.int i1), some (.int i2), some (.int i3), some (.int i4), some (.int ((mx_i h24 (a + 13) 0) * 4))]) (st' := []) (h' := mx_wi h24 (a + 14) ((mx_i h24 (a + 13) 0) * 4).toNatClampNeg i1) (P := ((mxT (a + 13)).1 = 1 ∧ mxG h24) ∧ ((mxT (a + 13)).1 = 1 ∧ mxG h24) ∧ (((mxT (a + 14)).1 = 50 ∧ mxG h24) ∧ vp_in ((mx_i h24 (a + 13) 0) * 4) (mxT (a + 14)).2) ∧ True) 10 rfl rfl ⟨⟨(congrArg Prod.fst (sV_13 hVa)), G26⟩, ⟨(congrArg Prod.fst (sV_13 hVa)), G26⟩, (cA (sV_14 hVa) G26 o27), trivial⟩ ?_
    obtain ⟨h28, e29⟩ : ∃ z9, z9 = mx_wi h24 (a + 14) ((mx_i h24 (a + 13) 0) * 4).toNatClampNeg i1 := ⟨_, rfl⟩
    rw [← e29]
    have H := H h28 e29
    have G30 : mxG h28 := e29 ▸ mxG_wi G26
    obtain ⟨o31, H⟩ := H
    refine wp_steps (i' := 36) (ls' := [some (.ref (a + 13)), some (.int i1), some (.int i2), some (.int i3), some (.int i4), some (.int ((mx_i h24 (a + 13) 0) * 4))]) (st' := []) (h' := mx_wi h28 (a + 14) (((mx_i h24 (a + 13) 0) * 4) + 1).toNatClampNeg i2) (P := ((mxT (a + 13)).1 = 1 ∧ mxG h28) ∧ (((mxT (a + 14)).1 = 50 ∧ mxG h28) ∧ vp_in (((mx_i h24 (a + 13) 0) * 4) + 1) (mxT (a + 14)).2) ∧ True) 7 rfl rfl ⟨⟨(congrArg Prod.fst (sV_13 hVa)), G30⟩, (cA (sV_14 hVa) G30 o31), trivial⟩ ?_
    obtain ⟨h32, e33⟩ : ∃ z9, z9 = mx_wi h28 (a + 14) (((mx_i h24 (a + 13) 0) * 4) + 1).toNatClampNeg i2 := ⟨_, rfl⟩
    rw [← e33]
    have H := H h32 e33
    have G34 : mxG h32 := e33 ▸ mxG_wi G30
    obtain ⟨o35, H⟩ := H
    refine wp_steps (i' := 43) (ls' := [some (.ref (a + 13)), some (.int i1), some (.int i2), some (.int i3), some (.int i4), some (.int ((mx_i h24 (a + 13) 0) * 4))]) (st' := []) (h' := mx_wi h32 (a + 14) (((mx_i h24 (a + 13) 0) * 4) + 2).toNatClampNeg i3) (P := ((mxT (a + 13)).1 = 1 ∧ mxG h32) ∧ (((mxT (a + 14)).1 = 50 ∧ mxG h32) ∧ vp_in (((mx_i h24 (a + 13) 0) * 4) + 2) (mxT (a + 14)).2) ∧ True) 7 rfl rfl ⟨⟨(congrArg Prod.fst (sV_13 hVa)), G34⟩, (cA (sV_14 hVa) G34 o35), trivial⟩ ?_
    obtain ⟨h36, e37⟩ : ∃ z9, z9 = mx_wi h32 (a + 14) (((mx_i h24 (a + 13) 0) * 4) + 2).toNatClampNeg i3 := ⟨_, rfl⟩
    rw [← e37]
    have H := H h36 e37
    have G38 : mxG h36 := e37 ▸ mxG_wi G34
    obtain ⟨o39, H⟩ := H
    refine wp_steps (i' := 50) (ls' := [some (.ref (a + 13)), some (.int i1), some (.int i2), some (.int i3), some (.int i4), some (.int ((mx_i h24 (a + 13) 0) * 4))]) (st' := []) (h' := mx_wi h36 (a + 14) (((mx_i h24 (a + 13) 0) * 4) + 3).toNatClampNeg i4) (P := ((mxT (a + 13)).1 = 1 ∧ mxG h36) ∧ (((mxT (a + 14)).1 = 50 ∧ mxG h36) ∧ vp_in (((mx_i h24 (a + 13) 0) * 4) + 3) (mxT (a + 14)).2) ∧ True) 7 rfl rfl ⟨⟨(congrArg Prod.fst (sV_13 hVa)), G38⟩, (cA (sV_14 hVa) G38 o39), trivial⟩ ?_
    obtain ⟨h40, e41⟩ : ∃ z9, z9 = mx_wi h36 (a + 14) (((mx_i h24 (a + 13) 0) * 4) + 3).toNatClampNeg i4 := ⟨_, rfl⟩
    rw [← e41]
    have H := H h40 e41
    have G42 : mxG h40 := e41 ▸ mxG_wi G38
    refine wp_steps (i' := 56) (ls' := [some (.ref (a + 13)), some (.int i1), some (.int i2), some (.int i3), some (.int i4), some (.int ((mx_i h24 (a + 13) 0) * 4))]) (st' := []) (h' := mx_wi h40 (a + 13) 0 ((mx_i h40 (a + 13) 0) + 1)) (P := ((mxT (a + 13)).1 = 1 ∧ mxG h40) ∧ ((mxT (a + 13)).1 = 1 ∧ mxG h40) ∧ True) 6 rfl rfl ⟨⟨(congrArg Prod.fst (sV_13 hVa)), G42⟩, ⟨(congrArg Prod.fst (sV_13 hVa)), G42⟩, trivial⟩ ?_
    obtain ⟨h43, e44⟩ : ∃ z9, z9 = mx_wi h40 (a + 13) 0 ((mx_i h40 (a + 13) 0) + 1) := ⟨_, rfl⟩
    rw [← e44]
    have H := H h43 e44
    have G45 : mxG h43 := e44 ▸ mxG_wi G42
    exact wp_end (o := .inl none) (h' := h43) (P := True) rfl rfl trivial H
def W_2 (h : mxH) (a : Nat) (i1 : Int32) (i2 : Int32) (i3 : Int32) (i4 : Int32) : mxH := (if (mx_i h (a + 13) 0) < 60 then (mx_wi (mx_wi (mx_wi (mx_wi (mx_wi h (a + 14) ((mx_i h (a + 13) 0) * 4).toNatClampNeg i1) (a + 14) (((mx_i h (a + 13) 0) * 4) + 1).toNatClampNeg i2) (a + 14) (((mx_i h (a + 13) 0) * 4) + 2).toNatClampNeg i3) (a + 14) (((mx_i h (a + 13) 0) * 4) + 3).toNatClampNeg i4) (a + 13) 0 ((mx_i (mx_wi (mx_wi (mx_wi (mx_wi h (a + 14) ((mx_i h (a + 13) 0) * 4).toNatClampNeg i1) (a + 14) (((mx_i h (a + 13) 0) * 4) + 1).toNatClampNeg i2) (a + 14) (((mx_i h (a + 13) 0) * 4) + 2).toNatClampNeg i3) (a + 14) (((mx_i h (a + 13) 0) * 4) + 3).toNatClampNeg i4) (a + 13) 0) + 1)) else (mx_wi (mx_wi (mx_wi (mx_wi (mx_wi (mx_wi (mx_wrow h (a + 14) (va_cpy (mx_i h (a + 14)) (mx_i h (a + 14)) 4 0 236)) (a + 13) 0 59) (a + 14) ((mx_i (mx_wi (mx_wrow h (a + 14) (va_cpy (mx_i h (a + 14)) (mx_i h (a + 14)) 4 0 236)) (a + 13) 0 59) (a + 13) 0) * 4).toNatClampNeg i1) (a + 14) (((mx_i (mx_wi (mx_wrow h (a + 14) (va_cpy (mx_i h (a + 14)) (mx_i h (a + 14)) 4 0 236)) (a + 13) 0 59) (a + 13) 0) * 4) + 1).toNatClampNeg i2) (a + 14) (((mx_i (mx_wi (mx_wrow h (a + 14) (va_cpy (mx_i h (a + 14)) (mx_i h (a + 14)) 4 0 236)) (a + 13) 0 59) (a + 13) 0) * 4) + 2).toNatClampNeg i3) (a + 14) (((mx_i (mx_wi (mx_wrow h (a + 14) (va_cpy (mx_i h (a + 14)) (mx_i h (a + 14)) 4 0 236)) (a + 13) 0 59) (a + 13) 0) * 4) + 3).toNatClampNeg i4) (a + 13) 0 ((mx_i (mx_wi (mx_wi (mx_wi (mx_wi (mx_wi (mx_wrow h (a + 14) (va_cpy (mx_i h (a + 14)) (mx_i h (a + 14)) 4 0 236)) (a + 13) 0 59) (a + 14) ((mx_i (mx_wi (mx_wrow h (a + 14) (va_cpy (mx_i h (a + 14)) (mx_i h (a + 14)) 4 0 236)) (a + 13) 0 59) (a + 13) 0) * 4).toNatClampNeg i1) (a + 14) (((mx_i (mx_wi (mx_wrow h (a + 14) (va_cpy (mx_i h (a + 14)) (mx_i h (a + 14)) 4 0 236)) (a + 13) 0 59) (a + 13) 0) * 4) + 1).toNatClampNeg i2) (a + 14) (((mx_i (mx_wi (mx_wrow h (a + 14) (va_cpy (mx_i h (a + 14)) (mx_i h (a + 14)) 4 0 236)) (a + 13) 0 59) (a + 13) 0) * 4) + 2).toNatClampNeg i3) (a + 14) (((mx_i (mx_wi (mx_wrow h (a + 14) (va_cpy (mx_i h (a + 14)) (mx_i h (a + 14)) 4 0 236)) (a + 13) 0 59) (a + 13) 0) * 4) + 3).toNatClampNeg i4) (a + 13) 0) + 1)))
theorem KW_2 {h : mxH} {a : Nat} {i1 : Int32} {i2 : Int32} {i3 : Int32} {i4 : Int32} : mxK h (W_2 h a i1 i2 i3 i4) := by
  unfold W_2
  repeat' (first | with_reducible exact mxK_rfl | with_reducible exact mxK_wi | with_reducible exact mxK_wrow | with_reducible refine mxK_ite ?_ ?_ | with_reducible refine mxK_tr ?_ mxK_wi | with_reducible refine mxK_tr ?_ mxK_wrow)
theorem sp_2 {d : Nat} {h : mxH} {Q : mxO → mxH → Prop} {a : Nat} {i1 : Int32} {i2 : Int32} {i3 : Int32} {i4 : Int32} (G : mxG h) (hVa : (mxT a).1 = 9) (x0 : (((mx_i h (a + 13) 0) < 60 → (vp_in ((mx_i h (a + 13) 0) * 4) 240 ∧ (vp_in (((mx_i h (a + 13) 0) * 4) + 1) 240 ∧ (vp_in (((mx_i h (a + 13) 0) * 4) + 2) 240 ∧ (vp_in (((mx_i h (a + 13) 0) * 4) + 3) 240 ∧ True))))) ∧ (¬ (mx_i h (a + 13) 0) < 60 → (vp_in ((mx_i (mx_wi (mx_wrow h (a + 14) (va_cpy (mx_i h (a + 14)) (mx_i h (a + 14)) 4 0 236)) (a + 13) 0 59) (a + 13) 0) * 4) 240 ∧ (vp_in (((mx_i (mx_wi (mx_wrow h (a + 14) (va_cpy (mx_i h (a + 14)) (mx_i h (a + 14)) 4 0 236)) (a + 13) 0 59) (a + 13) 0) * 4) + 1) 240 ∧ (vp_in (((mx_i (mx_wi (mx_wrow h (a + 14) (va_cpy (mx_i h (a + 14)) (mx_i h (a + 14)) 4 0 236)) (a + 13) 0 59) (a + 13) 0) * 4) + 2) 240 ∧ (vp_in (((mx_i (mx_wi (mx_wrow h (a + 14) (va_cpy (mx_i h (a + 14)) (mx_i h (a + 14)) 4 0 236)) (a + 13) 0 59) (a + 13) 0) * 4) + 3) 240 ∧ True))))))) (k : Q (.inl none) (W_2 h a i1 i2 i3 i4)) : mx_wp d 2 0 (mx_fr 2 [.ref (a + 13), .int i1, .int i2, .int i3, .int i4]) [] h Q := by
  unfold W_2 at k
  have hob : (((mx_i h (a + 13) 0) < 60 → (vp_in ((mx_i h (a + 13) 0) * 4) 240 ∧ (vp_in (((mx_i h (a + 13) 0) * 4) + 1) 240 ∧ (vp_in (((mx_i h (a + 13) 0) * 4) + 2) 240 ∧ (vp_in (((mx_i h (a + 13) 0) * 4) + 3) 240 ∧ True))))) ∧ (¬ (mx_i h (a + 13) 0) < 60 → (vp_in ((mx_i (mx_wi (mx_wrow h (a + 14) (va_cpy (mx_i h (a + 14)) (mx_i h (a + 14)) 4 0 236)) (a + 13) 0 59) (a + 13) 0) * 4) 240 ∧ (vp_in (((mx_i (mx_wi (mx_wrow h (a + 14) (va_cpy (mx_i h (a + 14)) (mx_i h (a + 14)) 4 0 236)) (a + 13) 0 59) (a + 13) 0) * 4) + 1) 240 ∧ (vp_in (((mx_i (mx_wi (mx_wrow h (a + 14) (va_cpy (mx_i h (a + 14)) (mx_i h (a + 14)) 4 0 236)) (a + 13) 0 59) (a + 13) 0) * 4) + 2) 240 ∧ (vp_in (((mx_i (mx_wi (mx_wrow h (a + 14) (va_cpy (mx_i h (a + 14)) (mx_i h (a + 14)) 4 0 236)) (a + 13) 0 59) (a + 13) 0) * 4) + 3) 240 ∧ True)))))) := x0
  refine tr_2_0 G hVa ?_
  refine ⟨fun c9 => ?_, fun c9 => ?_⟩
  · try simp only [if_pos c9] at k
    have hob := hob.1 c9
    obtain ⟨q0, hob⟩ := hob
    refine ⟨q0, ?_⟩
    intro h3 eh3
    subst eh3
    obtain ⟨q0, hob⟩ := hob
    refine ⟨q0, ?_⟩
    intro h7 eh7
    subst eh7
    obtain ⟨q0, hob⟩ := hob
    refine ⟨q0, ?_⟩
    intro h11 eh11
    subst eh11
    obtain ⟨q0, hob⟩ := hob
    refine ⟨q0, ?_⟩
    intro h15 eh15
    subst eh15
    intro h18 eh18
    subst eh18
    exact k
  · try simp only [if_neg c9] at k
    have hob := hob.2 c9
    intro h21 eh21
    subst eh21
    intro h24 eh24
    subst eh24
    obtain ⟨q0, hob⟩ := hob
    refine ⟨q0, ?_⟩
    intro h28 eh28
    subst eh28
    obtain ⟨q0, hob⟩ := hob
    refine ⟨q0, ?_⟩
    intro h32 eh32
    subst eh32
    obtain ⟨q0, hob⟩ := hob
    refine ⟨q0, ?_⟩
    intro h36 eh36
    subst eh36
    obtain ⟨q0, hob⟩ := hob
    refine ⟨q0, ?_⟩
    intro h40 eh40
    subst eh40
    intro h43 eh43
    subst eh43
    exact k
/-! 3: StoneBacks$Book.cell(II)I -/
set_option maxRecDepth 8000 in
theorem tr_3_0 {d : Nat} {h : mxH} {Q : mxO → mxH → Prop} {a : Nat} {i1 : Int32} {i2 : Int32} (G : mxG h) (hVa : (mxT a).1 = 9) (H : ((i1 < 0 → Q (.inl (some (.int (-1)))) h) ∧ (¬ i1 < 0 → ((i1 < (mx_i h (a + 13) 0) → ((i2 < 0 → Q (.inl (some (.int (-1)))) h) ∧ (¬ i2 < 0 → ((i2 < 4 → (vp_in (((((mx_i h (a + 13) 0) - 1) - i1) * 4) + i2) 240 ∧ Q (.inl (some (.int (mx_i h (a + 14) (((((mx_i h (a + 13) 0) - 1) - i1) * 4) + i2).toNatClampNeg)))) h)) ∧ (¬ i2 < 4 → Q (.inl (some (.int (-1)))) h))))) ∧ (¬ i1 < (mx_i h (a + 13) 0) → Q (.inl (some (.int (-1)))) h))))) : mx_wp d 3 0 (mx_fr 3 [.ref (a + 13), .int i1, .int i2]) [] h Q := by
  show mx_wp d 3 0 [some (.ref (a + 13)), some (.int i1), some (.int i2)] [] h Q
  refine wp_steps (i' := 1) (ls' := [some (.ref (a + 13)), some (.int i1), some (.int i2)]) (st' := [.int i1]) (h' := h) (P := True) 1 rfl rfl trivial ?_
  refine wp_br (P := True) (c := i1 < 0) (t := 11) (st' := []) rfl rfl trivial (fun c1 => ?_) (fun c1 => ?_)
  · skip
    have H := H.1 c1
    refine wp_steps (i' := 12) (ls' := [some (.ref (a + 13)), some (.int i1), some (.int i2)]) (st' := [.int (-1)]) (h' := h) (P := True) 1 rfl rfl trivial ?_
    exact wp_end (o := .inl (some (.int (-1)))) (h' := h) (P := True) rfl rfl trivial H
  · skip
    have H := H.2 c1
    refine wp_steps (i' := 5) (ls' := [some (.ref (a + 13)), some (.int i1), some (.int i2)]) (st' := [.int (mx_i h (a + 13) 0), .int i1]) (h' := h) (P := ((mxT (a + 13)).1 = 1 ∧ mxG h) ∧ True) 3 rfl rfl ⟨⟨(congrArg Prod.fst (sV_13 hVa)), G⟩, trivial⟩ ?_
    refine wp_br (P := True) (c := (mx_i h (a + 13) 0) ≤ i1) (t := 11) (st' := []) rfl rfl trivial (fun c2 => ?_) (fun c2 => ?_)
    · have c2 := Int32.not_lt.mpr c2
      have H := H.2 c2
      refine wp_steps (i' := 12) (ls' := [some (.ref (a + 13)), some (.int i1), some (.int i2)]) (st' := [.int (-1)]) (h' := h) (P := True) 1 rfl rfl trivial ?_
      exact wp_end (o := .inl (some (.int (-1)))) (h' := h) (P := True) rfl rfl trivial H
    · have c2 := Int32.not_le.mp c2
      have H := H.1 c2
      refine wp_steps (i' := 7) (ls' := [some (.ref (a + 13)), some (.int i1), some (.int i2)]) (st' := [.int i2]) (h' := h) (P := True) 1 rfl rfl trivial ?_
      refine wp_br (P := True) (c := i2 < 0) (t := 11) (st' := []) rfl rfl trivial (fun c3 => ?_) (fun c3 => ?_)
      · skip
        have H := H.1 c3
        refine wp_steps (i' := 12) (ls' := [some (.ref (a + 13)), some (.int i1), some (.int i2)]) (st' := [.int (-1)]) (h' := h) (P := True) 1 rfl rfl trivial ?_
        exact wp_end (o := .inl (some (.int (-1)))) (h' := h) (P := True) rfl rfl trivial H
      · skip
        have H := H.2 c3
        refine wp_steps (i' := 10) (ls' := [some (.ref (a + 13)), some (.int i1), some (.int i2)]) (st' := [.int 4, .int i2]) (h' := h) (P := True) 2 rfl rfl trivial ?_
        refine wp_br (P := True) (c := i2 < 4) (t := 13) (st' := []) rfl rfl trivial (fun c4 => ?_) (fun c4 => ?_)
        · skip
          have H := H.1 c4
          obtain ⟨o5, H⟩ := H
          refine wp_steps (i' := 26) (ls' := [some (.ref (a + 13)), some (.int i1), some (.int i2)]) (st' := [.int (mx_i h (a + 14) (((((mx_i h (a + 13) 0) - 1) - i1) * 4) + i2).toNatClampNeg)]) (h' := h) (P := ((mxT (a + 13)).1 = 1 ∧ mxG h) ∧ ((mxT (a + 13)).1 = 1 ∧ mxG h) ∧ (((mxT (a + 14)).1 = 50 ∧ mxG h) ∧ vp_in (((((mx_i h (a + 13) 0) - 1) - i1) * 4) + i2) (mxT (a + 14)).2) ∧ True) 13 rfl rfl ⟨⟨(congrArg Prod.fst (sV_13 hVa)), G⟩, ⟨(congrArg Prod.fst (sV_13 hVa)), G⟩, (cA (sV_14 hVa) G o5), trivial⟩ ?_
          exact wp_end (o := .inl (some (.int (mx_i h (a + 14) (((((mx_i h (a + 13) 0) - 1) - i1) * 4) + i2).toNatClampNeg)))) (h' := h) (P := True) rfl rfl trivial H
        · skip
          have H := H.2 c4
          refine wp_steps (i' := 12) (ls' := [some (.ref (a + 13)), some (.int i1), some (.int i2)]) (st' := [.int (-1)]) (h' := h) (P := True) 1 rfl rfl trivial ?_
          exact wp_end (o := .inl (some (.int (-1)))) (h' := h) (P := True) rfl rfl trivial H
def V_3 (h : mxH) (a : Nat) (i1 : Int32) (i2 : Int32) : Int32 := (if i1 < 0 then (-1) else (if i1 < (mx_i h (a + 13) 0) then (if i2 < 0 then (-1) else (if i2 < 4 then (mx_i h (a + 14) (((((mx_i h (a + 13) 0) - 1) - i1) * 4) + i2).toNatClampNeg) else (-1))) else (-1)))
theorem sp_3 {d : Nat} {h : mxH} {Q : mxO → mxH → Prop} {a : Nat} {i1 : Int32} {i2 : Int32} (G : mxG h) (hVa : (mxT a).1 = 9) (x0 : ((i1 < 0 → True) ∧ (¬ i1 < 0 → ((i1 < (mx_i h (a + 13) 0) → ((i2 < 0 → True) ∧ (¬ i2 < 0 → ((i2 < 4 → (vp_in (((((mx_i h (a + 13) 0) - 1) - i1) * 4) + i2) 240 ∧ True)) ∧ (¬ i2 < 4 → True))))) ∧ (¬ i1 < (mx_i h (a + 13) 0) → True))))) (k : Q (.inl (some (.int (V_3 h a i1 i2)))) h) : mx_wp d 3 0 (mx_fr 3 [.ref (a + 13), .int i1, .int i2]) [] h Q := by
  unfold V_3 at k
  have hob : ((i1 < 0 → True) ∧ (¬ i1 < 0 → ((i1 < (mx_i h (a + 13) 0) → ((i2 < 0 → True) ∧ (¬ i2 < 0 → ((i2 < 4 → (vp_in (((((mx_i h (a + 13) 0) - 1) - i1) * 4) + i2) 240 ∧ True)) ∧ (¬ i2 < 4 → True))))) ∧ (¬ i1 < (mx_i h (a + 13) 0) → True)))) := x0
  refine tr_3_0 G hVa ?_
  refine ⟨fun c9 => ?_, fun c9 => ?_⟩
  · try simp only [if_pos c9] at k
    have hob := hob.1 c9
    exact k
  · try simp only [if_neg c9] at k
    have hob := hob.2 c9
    refine ⟨fun c9 => ?_, fun c9 => ?_⟩
    · try simp only [if_pos c9] at k
      have hob := hob.1 c9
      refine ⟨fun c9 => ?_, fun c9 => ?_⟩
      · try simp only [if_pos c9] at k
        have hob := hob.1 c9
        exact k
      · try simp only [if_neg c9] at k
        have hob := hob.2 c9
        refine ⟨fun c9 => ?_, fun c9 => ?_⟩
        · try simp only [if_pos c9] at k
          have hob := hob.1 c9
          obtain ⟨q0, hob⟩ := hob
          refine ⟨q0, ?_⟩
          exact k
        · try simp only [if_neg c9] at k
          have hob := hob.2 c9
          exact k
    · try simp only [if_neg c9] at k
      have hob := hob.2 c9
      exact k
/-! 4: StoneBacks$Book.rowsOf(I)I -/
def H_4_4 (d : Nat) (h : mxH) (a : Nat) (i1 : Int32) (i2 : Int32) (i3 : Int32) (Q : mxO → mxH → Prop) : Prop := mx_wp d 4 4 [some (.ref (a + 13)), some (.int i1), some (.int i2), some (.int i3)] [] h Q
set_option maxRecDepth 8000 in
theorem tr_4_0 {d : Nat} {h : mxH} {Q : mxO → mxH → Prop} {a : Nat} {i1 : Int32} (G : mxG h) (hVa : (mxT a).1 = 9) (H : H_4_4 (d + 1) h a i1 0 0 Q) : mx_wp (d + 1) 4 0 (mx_fr 4 [.ref (a + 13), .int i1]) [] h Q := by
  show mx_wp (d + 1) 4 0 [some (.ref (a + 13)), some (.int i1), none, none] [] h Q
  refine wp_steps (i' := 4) (ls' := [some (.ref (a + 13)), some (.int i1), some (.int 0), some (.int 0)]) (st' := []) (h' := h) (P := True) 4 rfl rfl trivial ?_
  exact H 
set_option maxRecDepth 8000 in
theorem tr_4_4 {d : Nat} {h : mxH} {Q : mxO → mxH → Prop} {a : Nat} {i1 : Int32} {i2 : Int32} {i3 : Int32} (G : mxG h) (hVa : (mxT a).1 = 9) (H : ((i3 < (mx_i h (a + 13) 0) → (((i3 < 0 → True) ∧ (¬ i3 < 0 → ((i3 < (mx_i h (a + 13) 0) → (((1 : Int32) < 0 → True) ∧ (¬ (1 : Int32) < 0 → (((1 : Int32) < 4 → (vp_in (((((mx_i h (a + 13) 0) - 1) - i3) * 4) + (1 : Int32)) 240 ∧ True)) ∧ (¬ (1 : Int32) < 4 → True))))) ∧ (¬ i3 < (mx_i h (a + 13) 0) → True)))) ∧ (∀ (v3 : Int32), v3 = ((if (V_3 h a i3 (1 : Int32)) = i1 then (i2 + 1) else i2) : Int32) → H_4_4 (d + 1) h a i1 v3 (i3 + 1) Q))) ∧ (¬ i3 < (mx_i h (a + 13) 0) → Q (.inl (some (.int i2))) h))) : H_4_4 (d + 1) h a i1 i2 i3 Q := by
  show mx_wp (d + 1) 4 4 [some (.ref (a + 13)), some (.int i1), some (.int i2), some (.int i3)] [] h Q
  refine wp_steps (i' := 7) (ls' := [some (.ref (a + 13)), some (.int i1), some (.int i2), some (.int i3)]) (st' := [.int (mx_i h (a + 13) 0), .int i3]) (h' := h) (P := ((mxT (a + 13)).1 = 1 ∧ mxG h) ∧ True) 3 rfl rfl ⟨⟨(congrArg Prod.fst (sV_13 hVa)), G⟩, trivial⟩ ?_
  refine wp_br (P := True) (c := (mx_i h (a + 13) 0) ≤ i3) (t := 17) (st' := []) rfl rfl trivial (fun c1 => ?_) (fun c1 => ?_)
  · have c1 := Int32.not_lt.mpr c1
    have H := H.2 c1
    refine wp_steps (i' := 18) (ls' := [some (.ref (a + 13)), some (.int i1), some (.int i2), some (.int i3)]) (st' := [.int i2]) (h' := h) (P := True) 1 rfl rfl trivial ?_
    exact wp_end (o := .inl (some (.int i2))) (h' := h) (P := True) rfl rfl trivial H
  · have c1 := Int32.not_le.mp c1
    have H := H.1 c1
    refine wp_steps (i' := 11) (ls' := [some (.ref (a + 13)), some (.int i1), some (.int i2), some (.int i3)]) (st' := [.int 1, .int i3, .ref (a + 13)]) (h' := h) (P := True) 3 rfl rfl trivial ?_
    obtain ⟨o2, H⟩ := H
    refine wp_call (b := false) (y' := 3) (as := [.ref (a + 13), .int i3, .int 1]) (rest := []) (P := ((mxT (a + 13)).1 = mxRc 3 ∧ mxG h)) rfl (by with_unfolding_all rfl) ⟨(congrArg Prod.fst (sV_13 hVa)), G⟩ (Nat.le_of_ble_eq_true rfl) (sp_3 G hVa o2 ?_)
    show mx_wp (d + 1) 4 12 [some (.ref (a + 13)), some (.int i1), some (.int i2), some (.int i3)] [.int (V_3 h a i3 (1 : Int32))] h Q
    refine wp_steps (i' := 13) (ls' := [some (.ref (a + 13)), some (.int i1), some (.int i2), some (.int i3)]) (st' := [.int i1, .int (V_3 h a i3 (1 : Int32))]) (h' := h) (P := True) 1 rfl rfl trivial ?_
    have J : ∀ (v3 : Int32) (ev3 : v3 = ((if (V_3 h a i3 (1 : Int32)) = i1 then (i2 + 1) else i2) : Int32)), mx_wp (d + 1) 4 15 [some (.ref (a + 13)), some (.int i1), some (.int v3), some (.int i3)] [] h Q := by
      intro v3 ev3
      have H := H v3 ev3
      refine wp_steps (i' := 16) (ls' := [some (.ref (a + 13)), some (.int i1), some (.int v3), some (.int (i3 + 1))]) (st' := []) (h' := h) (P := True) 1 rfl rfl trivial ?_
      refine wp_J (j := 4) (st' := []) rfl rfl ?_
      exact H 
    refine wp_br (P := True) (c := ¬ (V_3 h a i3 (1 : Int32)) = i1) (t := 15) (st' := []) rfl rfl trivial (fun c4 => ?_) (fun c4 => ?_)
    · skip
      exact J _ (by rw [if_neg c4])
    · have c4 := Decidable.of_not_not c4
      refine wp_steps (i' := 15) (ls' := [some (.ref (a + 13)), some (.int i1), some (.int (i2 + 1)), some (.int i3)]) (st' := []) (h' := h) (P := True) 1 rfl rfl trivial ?_
      exact J _ (by rw [if_pos c4])
def F_4_4 (h : mxH) (a : Nat) (i1 : Int32) (z : Nat) (s : Int32) : Int32 := ((if (V_3 h a (nI z) (1 : Int32)) = i1 then (s + 1) else s) : Int32)
theorem lp_4_4 {d : Nat} {h : mxH} {Q : mxO → mxH → Prop} {a : Nat} {i1 : Int32} {s0 : Int32} {n : Nat} (z0 : Nat) (G : mxG h) (hVa : (mxT a).1 = 9) (hB : (mx_i h (a + 13) 0) = nI n) (hn : n < 2147483648) (hz : z0 ≤ n) (ob : ∀ z, z0 ≤ z → z < n → ((((nI z) < 0 → True) ∧ (¬ (nI z) < 0 → (((nI z) < (mx_i h (a + 13) 0) → (((1 : Int32) < 0 → True) ∧ (¬ (1 : Int32) < 0 → (((1 : Int32) < 4 → (vp_in (((((mx_i h (a + 13) 0) - 1) - (nI z)) * 4) + (1 : Int32)) 240 ∧ True)) ∧ (¬ (1 : Int32) < 4 → True))))) ∧ (¬ (nI z) < (mx_i h (a + 13) 0) → True)))) ∧ True)) (k : Q (.inl (some (.int (fz (F_4_4 h a i1) z0 n s0)))) h) : H_4_4 (d + 1) h a i1 s0 (nI z0) Q := by
  have L : ∀ (j z : Nat), z0 ≤ z → z + j = n → H_4_4 (d + 1) h a i1 (fz (F_4_4 h a i1) z0 z s0) (nI z) Q := by
    intro j
    induction j with
    | zero =>
      intro z hz0 hzn
      have hzn : z = n := by omega
      subst hzn
      refine tr_4_4 G hVa ⟨fun c9 => absurd (hB ▸ c9) Int32.lt_irrefl, fun c9 => k⟩
    | succ j ih =>
      intro z hz0 hzn
      have hih := ih (z + 1) (by omega) (by omega)
      rw [nI_succ, fz_s hz0] at hih
      have hob := ob z hz0 (by omega)
      refine tr_4_4 G hVa ⟨fun c9 => ?_, fun c9 => absurd (hB.symm ▸ nI_lt (by omega) hn) c9⟩
      obtain ⟨q0, hob⟩ := hob
      refine ⟨q0, ?_⟩
      intro v3 ev3
      subst ev3
      exact hih
  have L0 := L (n - z0) z0 (Nat.le_refl _) (by omega)
  simp only [fz_0] at L0
  exact L0
/-! 5: StoneBacks$Book.latestHourOf(I)I -/
def H_5_2 (d : Nat) (h : mxH) (a : Nat) (i1 : Int32) (i2 : Int32) (Q : mxO → mxH → Prop) : Prop := mx_wp d 5 2 [some (.ref (a + 13)), some (.int i1), some (.int i2)] [] h Q
set_option maxRecDepth 8000 in
theorem tr_5_0 {d : Nat} {h : mxH} {Q : mxO → mxH → Prop} {a : Nat} {i1 : Int32} (G : mxG h) (hVa : (mxT a).1 = 9) (H : H_5_2 (d + 1) h a i1 0 Q) : mx_wp (d + 1) 5 0 (mx_fr 5 [.ref (a + 13), .int i1]) [] h Q := by
  show mx_wp (d + 1) 5 0 [some (.ref (a + 13)), some (.int i1), none] [] h Q
  refine wp_steps (i' := 2) (ls' := [some (.ref (a + 13)), some (.int i1), some (.int 0)]) (st' := []) (h' := h) (P := True) 2 rfl rfl trivial ?_
  exact H 
set_option maxRecDepth 8000 in
theorem tr_5_2 {d : Nat} {h : mxH} {Q : mxO → mxH → Prop} {a : Nat} {i1 : Int32} {i2 : Int32} (G : mxG h) (hVa : (mxT a).1 = 9) (H : ((i2 < (mx_i h (a + 13) 0) → (((i2 < 0 → True) ∧ (¬ i2 < 0 → ((i2 < (mx_i h (a + 13) 0) → (((1 : Int32) < 0 → True) ∧ (¬ (1 : Int32) < 0 → (((1 : Int32) < 4 → (vp_in (((((mx_i h (a + 13) 0) - 1) - i2) * 4) + (1 : Int32)) 240 ∧ True)) ∧ (¬ (1 : Int32) < 4 → True))))) ∧ (¬ i2 < (mx_i h (a + 13) 0) → True)))) ∧ (((V_3 h a i2 (1 : Int32)) = i1 → (((i2 < 0 → True) ∧ (¬ i2 < 0 → ((i2 < (mx_i h (a + 13) 0) → (((0 : Int32) < 0 → True) ∧ (¬ (0 : Int32) < 0 → (((0 : Int32) < 4 → (vp_in (((((mx_i h (a + 13) 0) - 1) - i2) * 4) + (0 : Int32)) 240 ∧ True)) ∧ (¬ (0 : Int32) < 4 → True))))) ∧ (¬ i2 < (mx_i h (a + 13) 0) → True)))) ∧ Q (.inl (some (.int (V_3 h a i2 (0 : Int32))))) h)) ∧ (¬ (V_3 h a i2 (1 : Int32)) = i1 → H_5_2 (d + 1) h a i1 (i2 + 1) Q)))) ∧ (¬ i2 < (mx_i h (a + 13) 0) → Q (.inl (some (.int (-1)))) h))) : H_5_2 (d + 1) h a i1 i2 Q := by
  show mx_wp (d + 1) 5 2 [some (.ref (a + 13)), some (.int i1), some (.int i2)] [] h Q
  refine wp_steps (i' := 5) (ls' := [some (.ref (a + 13)), some (.int i1), some (.int i2)]) (st' := [.int (mx_i h (a + 13) 0), .int i2]) (h' := h) (P := ((mxT (a + 13)).1 = 1 ∧ mxG h) ∧ True) 3 rfl rfl ⟨⟨(congrArg Prod.fst (sV_13 hVa)), G⟩, trivial⟩ ?_
  refine wp_br (P := True) (c := (mx_i h (a + 13) 0) ≤ i2) (t := 19) (st' := []) rfl rfl trivial (fun c1 => ?_) (fun c1 => ?_)
  · have c1 := Int32.not_lt.mpr c1
    have H := H.2 c1
    refine wp_steps (i' := 20) (ls' := [some (.ref (a + 13)), some (.int i1), some (.int i2)]) (st' := [.int (-1)]) (h' := h) (P := True) 1 rfl rfl trivial ?_
    exact wp_end (o := .inl (some (.int (-1)))) (h' := h) (P := True) rfl rfl trivial H
  · have c1 := Int32.not_le.mp c1
    have H := H.1 c1
    refine wp_steps (i' := 9) (ls' := [some (.ref (a + 13)), some (.int i1), some (.int i2)]) (st' := [.int 1, .int i2, .ref (a + 13)]) (h' := h) (P := True) 3 rfl rfl trivial ?_
    obtain ⟨o2, H⟩ := H
    refine wp_call (b := false) (y' := 3) (as := [.ref (a + 13), .int i2, .int 1]) (rest := []) (P := ((mxT (a + 13)).1 = mxRc 3 ∧ mxG h)) rfl (by with_unfolding_all rfl) ⟨(congrArg Prod.fst (sV_13 hVa)), G⟩ (Nat.le_of_ble_eq_true rfl) (sp_3 G hVa o2 ?_)
    show mx_wp (d + 1) 5 10 [some (.ref (a + 13)), some (.int i1), some (.int i2)] [.int (V_3 h a i2 (1 : Int32))] h Q
    refine wp_steps (i' := 11) (ls' := [some (.ref (a + 13)), some (.int i1), some (.int i2)]) (st' := [.int i1, .int (V_3 h a i2 (1 : Int32))]) (h' := h) (P := True) 1 rfl rfl trivial ?_
    refine wp_br (P := True) (c := ¬ (V_3 h a i2 (1 : Int32)) = i1) (t := 17) (st' := []) rfl rfl trivial (fun c3 => ?_) (fun c3 => ?_)
    · skip
      have H := H.2 c3
      refine wp_steps (i' := 18) (ls' := [some (.ref (a + 13)), some (.int i1), some (.int (i2 + 1))]) (st' := []) (h' := h) (P := True) 1 rfl rfl trivial ?_
      refine wp_J (j := 2) (st' := []) rfl rfl ?_
      exact H 
    · have c3 := Decidable.of_not_not c3
      have H := H.1 c3
      refine wp_steps (i' := 15) (ls' := [some (.ref (a + 13)), some (.int i1), some (.int i2)]) (st' := [.int 0, .int i2, .ref (a + 13)]) (h' := h) (P := True) 3 rfl rfl trivial ?_
      obtain ⟨o4, H⟩ := H
      refine wp_call (b := false) (y' := 3) (as := [.ref (a + 13), .int i2, .int 0]) (rest := []) (P := ((mxT (a + 13)).1 = mxRc 3 ∧ mxG h)) rfl (by with_unfolding_all rfl) ⟨(congrArg Prod.fst (sV_13 hVa)), G⟩ (Nat.le_of_ble_eq_true rfl) (sp_3 G hVa o4 ?_)
      show mx_wp (d + 1) 5 16 [some (.ref (a + 13)), some (.int i1), some (.int i2)] [.int (V_3 h a i2 (0 : Int32))] h Q
      exact wp_end (o := .inl (some (.int (V_3 h a i2 (0 : Int32))))) (h' := h) (P := True) rfl rfl trivial H
/-! 70: StoneBacks$Stones.bearer(I)I -/
set_option maxRecDepth 8000 in
theorem tr_70_0 {d : Nat} {h : mxH} {Q : mxO → mxH → Prop} {a : Nat} {i1 : Int32} (G : mxG h) (hVa : (mxT a).1 = 9) (H : (vp_in i1 10 ∧ (∀ (v2 : Int32), v2 = ((if (mx_i h (a + 11) i1.toNatClampNeg) = 0 then (mx_i h (a + 12) i1.toNatClampNeg) else (-1)) : Int32) → Q (.inl (some (.int v2))) h))) : mx_wp d 70 0 (mx_fr 70 [.ref (a + 7), .int i1]) [] h Q := by
  show mx_wp d 70 0 [some (.ref (a + 7)), some (.int i1)] [] h Q
  obtain ⟨o1, H⟩ := H
  refine wp_steps (i' := 4) (ls' := [some (.ref (a + 7)), some (.int i1)]) (st' := [.int (mx_i h (a + 11) i1.toNatClampNeg)]) (h' := h) (P := ((mxT (a + 7)).1 = 7 ∧ mxG h) ∧ (((mxT (a + 11)).1 = 50 ∧ mxG h) ∧ vp_in i1 (mxT (a + 11)).2) ∧ True) 4 rfl rfl ⟨⟨(congrArg Prod.fst (sV_7 hVa)), G⟩, (cA (sV_11 hVa) G o1), trivial⟩ ?_
  have J : ∀ (v2 : Int32) (ev2 : v2 = ((if (mx_i h (a + 11) i1.toNatClampNeg) = 0 then (mx_i h (a + 12) i1.toNatClampNeg) else (-1)) : Int32)), mx_wp d 70 11 [some (.ref (a + 7)), some (.int i1)] [.int v2] h Q := by
    intro v2 ev2
    have H := H v2 ev2
    exact wp_end (o := .inl (some (.int v2))) (h' := h) (P := True) rfl rfl trivial H
  refine wp_br (P := True) (c := ¬ (mx_i h (a + 11) i1.toNatClampNeg) = 0) (t := 10) (st' := []) rfl rfl trivial (fun c3 => ?_) (fun c3 => ?_)
  · skip
    refine wp_steps (i' := 11) (ls' := [some (.ref (a + 7)), some (.int i1)]) (st' := [.int (-1)]) (h' := h) (P := True) 1 rfl rfl trivial ?_
    exact J _ (by rw [if_neg c3])
  · have c3 := Decidable.of_not_not c3
    refine wp_steps (i' := 9) (ls' := [some (.ref (a + 7)), some (.int i1)]) (st' := [.int (mx_i h (a + 12) i1.toNatClampNeg)]) (h' := h) (P := ((mxT (a + 7)).1 = 7 ∧ mxG h) ∧ (((mxT (a + 12)).1 = 50 ∧ mxG h) ∧ vp_in i1 (mxT (a + 12)).2) ∧ True) 4 rfl rfl ⟨⟨(congrArg Prod.fst (sV_7 hVa)), G⟩, (cA (sV_12 hVa) G o1), trivial⟩ ?_
    refine wp_J (j := 11) (st' := [.int (mx_i h (a + 12) i1.toNatClampNeg)]) rfl rfl ?_
    exact J _ (by rw [if_pos c3])
def V_70 (h : mxH) (a : Nat) (i1 : Int32) : Int32 := ((if (mx_i h (a + 11) i1.toNatClampNeg) = 0 then (mx_i h (a + 12) i1.toNatClampNeg) else (-1)) : Int32)
theorem sp_70 {d : Nat} {h : mxH} {Q : mxO → mxH → Prop} {a : Nat} {i1 : Int32} (G : mxG h) (hVa : (mxT a).1 = 9) (x0 : vp_in i1 10) (k : Q (.inl (some (.int (V_70 h a i1)))) h) : mx_wp d 70 0 (mx_fr 70 [.ref (a + 7), .int i1]) [] h Q := by
  unfold V_70 at k
  have hob : (vp_in i1 10 ∧ True) := ⟨x0, trivial⟩
  refine tr_70_0 G hVa ?_
  obtain ⟨q0, hob⟩ := hob
  refine ⟨q0, ?_⟩
  intro v2 ev2
  subst ev2
  exact k
/-! 71: StoneBacks$Stones.wornBy(I)I -/
def H_71_4 (d : Nat) (h : mxH) (a : Nat) (i1 : Int32) (i2 : Int32) (i3 : Int32) (Q : mxO → mxH → Prop) : Prop := mx_wp d 71 4 [some (.ref (a + 7)), some (.int i1), some (.int i2), some (.int i3)] [] h Q
set_option maxRecDepth 8000 in
theorem tr_71_0 {d : Nat} {h : mxH} {Q : mxO → mxH → Prop} {a : Nat} {i1 : Int32} (G : mxG h) (hVa : (mxT a).1 = 9) (H : H_71_4 (d + 1) h a i1 0 0 Q) : mx_wp (d + 1) 71 0 (mx_fr 71 [.ref (a + 7), .int i1]) [] h Q := by
  show mx_wp (d + 1) 71 0 [some (.ref (a + 7)), some (.int i1), none, none] [] h Q
  refine wp_steps (i' := 4) (ls' := [some (.ref (a + 7)), some (.int i1), some (.int 0), some (.int 0)]) (st' := []) (h' := h) (P := True) 4 rfl rfl trivial ?_
  exact H 
set_option maxRecDepth 8000 in
theorem tr_71_4 {d : Nat} {h : mxH} {Q : mxO → mxH → Prop} {a : Nat} {i1 : Int32} {i2 : Int32} {i3 : Int32} (G : mxG h) (hVa : (mxT a).1 = 9) (H : ((i3 < (mx_i h (a + 7) 0) → (vp_in i3 10 ∧ (∀ (v3 : Int32), v3 = ((if (V_70 h a i3) = i1 then (i2 ||| ((1 : Int32) <<< (i3 &&& 31))) else i2) : Int32) → H_71_4 (d + 1) h a i1 v3 (i3 + 1) Q))) ∧ (¬ i3 < (mx_i h (a + 7) 0) → Q (.inl (some (.int i2))) h))) : H_71_4 (d + 1) h a i1 i2 i3 Q := by
  show mx_wp (d + 1) 71 4 [some (.ref (a + 7)), some (.int i1), some (.int i2), some (.int i3)] [] h Q
  refine wp_steps (i' := 7) (ls' := [some (.ref (a + 7)), some (.int i1), some (.int i2), some (.int i3)]) (st' := [.int (mx_i h (a + 7) 0), .int i3]) (h' := h) (P := ((mxT (a + 7)).1 = 7 ∧ mxG h) ∧ True) 3 rfl rfl ⟨⟨(congrArg Prod.fst (sV_7 hVa)), G⟩, trivial⟩ ?_
  refine wp_br (P := True) (c := (mx_i h (a + 7) 0) ≤ i3) (t := 21) (st' := []) rfl rfl trivial (fun c1 => ?_) (fun c1 => ?_)
  · have c1 := Int32.not_lt.mpr c1
    have H := H.2 c1
    refine wp_steps (i' := 22) (ls' := [some (.ref (a + 7)), some (.int i1), some (.int i2), some (.int i3)]) (st' := [.int i2]) (h' := h) (P := True) 1 rfl rfl trivial ?_
    exact wp_end (o := .inl (some (.int i2))) (h' := h) (P := True) rfl rfl trivial H
  · have c1 := Int32.not_le.mp c1
    have H := H.1 c1
    refine wp_steps (i' := 10) (ls' := [some (.ref (a + 7)), some (.int i1), some (.int i2), some (.int i3)]) (st' := [.int i3, .ref (a + 7)]) (h' := h) (P := True) 2 rfl rfl trivial ?_
    obtain ⟨o2, H⟩ := H
    refine wp_call (b := false) (y' := 70) (as := [.ref (a + 7), .int i3]) (rest := []) (P := ((mxT (a + 7)).1 = mxRc 70 ∧ mxG h)) rfl (by with_unfolding_all rfl) ⟨(congrArg Prod.fst (sV_7 hVa)), G⟩ (Nat.le_of_ble_eq_true rfl) (sp_70 G hVa o2 ?_)
    show mx_wp (d + 1) 71 11 [some (.ref (a + 7)), some (.int i1), some (.int i2), some (.int i3)] [.int (V_70 h a i3)] h Q
    refine wp_steps (i' := 12) (ls' := [some (.ref (a + 7)), some (.int i1), some (.int i2), some (.int i3)]) (st' := [.int i1, .int (V_70 h a i3)]) (h' := h) (P := True) 1 rfl rfl trivial ?_
    have J : ∀ (v3 : Int32) (ev3 : v3 = ((if (V_70 h a i3) = i1 then (i2 ||| ((1 : Int32) <<< (i3 &&& 31))) else i2) : Int32)), mx_wp (d + 1) 71 19 [some (.ref (a + 7)), some (.int i1), some (.int v3), some (.int i3)] [] h Q := by
      intro v3 ev3
      have H := H v3 ev3
      refine wp_steps (i' := 20) (ls' := [some (.ref (a + 7)), some (.int i1), some (.int v3), some (.int (i3 + 1))]) (st' := []) (h' := h) (P := True) 1 rfl rfl trivial ?_
      refine wp_J (j := 4) (st' := []) rfl rfl ?_
      exact H 
    refine wp_br (P := True) (c := ¬ (V_70 h a i3) = i1) (t := 19) (st' := []) rfl rfl trivial (fun c4 => ?_) (fun c4 => ?_)
    · skip
      exact J _ (by rw [if_neg c4])
    · have c4 := Decidable.of_not_not c4
      refine wp_steps (i' := 19) (ls' := [some (.ref (a + 7)), some (.int i1), some (.int (i2 ||| ((1 : Int32) <<< (i3 &&& 31)))), some (.int i3)]) (st' := []) (h' := h) (P := True) 6 rfl rfl trivial ?_
      exact J _ (by rw [if_pos c4])
def F_71_4 (h : mxH) (a : Nat) (i1 : Int32) (z : Nat) (s : Int32) : Int32 := ((if (V_70 h a (nI z)) = i1 then (s ||| ((1 : Int32) <<< ((nI z) &&& 31))) else s) : Int32)
theorem lp_71_4 {d : Nat} {h : mxH} {Q : mxO → mxH → Prop} {a : Nat} {i1 : Int32} {s0 : Int32} {n : Nat} (z0 : Nat) (G : mxG h) (hVa : (mxT a).1 = 9) (hB : (mx_i h (a + 7) 0) = nI n) (hn : n < 2147483648) (hz : z0 ≤ n) (ob : ∀ z, z0 ≤ z → z < n → (vp_in (nI z) 10 ∧ True)) (k : Q (.inl (some (.int (fz (F_71_4 h a i1) z0 n s0)))) h) : H_71_4 (d + 1) h a i1 s0 (nI z0) Q := by
  have L : ∀ (j z : Nat), z0 ≤ z → z + j = n → H_71_4 (d + 1) h a i1 (fz (F_71_4 h a i1) z0 z s0) (nI z) Q := by
    intro j
    induction j with
    | zero =>
      intro z hz0 hzn
      have hzn : z = n := by omega
      subst hzn
      refine tr_71_4 G hVa ⟨fun c9 => absurd (hB ▸ c9) Int32.lt_irrefl, fun c9 => k⟩
    | succ j ih =>
      intro z hz0 hzn
      have hih := ih (z + 1) (by omega) (by omega)
      rw [nI_succ, fz_s hz0] at hih
      have hob := ob z hz0 (by omega)
      refine tr_71_4 G hVa ⟨fun c9 => ?_, fun c9 => absurd (hB.symm ▸ nI_lt (by omega) hn) c9⟩
      obtain ⟨q0, hob⟩ := hob
      refine ⟨q0, ?_⟩
      intro v3 ev3
      subst ev3
      exact hih
  have L0 := L (n - z0) z0 (Nat.le_refl _) (by omega)
  simp only [fz_0] at L0
  exact L0
def V_71 (h : mxH) (a : Nat) (i1 : Int32) : Int32 := (fo (F_71_4 h a i1) ((mx_i h (a + 7) 0)).toNatClampNeg 0)
theorem sp_71 {d : Nat} {h : mxH} {Q : mxO → mxH → Prop} {a : Nat} {i1 : Int32} (G : mxG h) (hVa : (mxT a).1 = 9) (hcb : cB (mx_i h (a + 7) 0) 10) (k : Q (.inl (some (.int (V_71 h a i1)))) h) : mx_wp (d + 1) 71 0 (mx_fr 71 [.ref (a + 7), .int i1]) [] h Q := by
  unfold V_71 at k
  obtain ⟨n, hn, hB⟩ := hcb
  rw [hB, nI_clamp (by omega)] at k
  refine tr_71_0 G hVa ?_
  refine lp_71_4 (s0 := 0) 0 G hVa hB (by omega) (Nat.zero_le _) (fun z _ hz => ⟨vp_in_nI (by omega) (by decide), trivial⟩) ?_
  simp only [fz_fo]
  exact k
/-! 76: StoneBacks$Stones.weightOf(I)I -/
def H_76_4 (d : Nat) (h : mxH) (a : Nat) (i1 : Int32) (i2 : Int32) (i3 : Int32) (Q : mxO → mxH → Prop) : Prop := mx_wp d 76 4 [some (.ref (a + 7)), some (.int i1), some (.int i2), some (.int i3)] [] h Q
set_option maxRecDepth 8000 in
theorem tr_76_0 {d : Nat} {h : mxH} {Q : mxO → mxH → Prop} {a : Nat} {i1 : Int32} (G : mxG h) (hVa : (mxT a).1 = 9) (H : H_76_4 d h a i1 0 0 Q) : mx_wp d 76 0 (mx_fr 76 [.ref (a + 7), .int i1]) [] h Q := by
  show mx_wp d 76 0 [some (.ref (a + 7)), some (.int i1), none, none] [] h Q
  refine wp_steps (i' := 4) (ls' := [some (.ref (a + 7)), some (.int i1), some (.int 0), some (.int 0)]) (st' := []) (h' := h) (P := True) 4 rfl rfl trivial ?_
  exact H 
set_option maxRecDepth 8000 in
theorem tr_76_4 {d : Nat} {h : mxH} {Q : mxO → mxH → Prop} {a : Nat} {i1 : Int32} {i2 : Int32} {i3 : Int32} (G : mxG h) (hVa : (mxT a).1 = 9) (H : ((i3 < (mx_i h (a + 7) 0) → (((((i1 >>> (i3 &&& 31)) &&& 1) = 1 → (vp_in i3 10 ∧ True)) ∧ (¬ ((i1 >>> (i3 &&& 31)) &&& 1) = 1 → True)) ∧ (∀ (v2 : Int32), v2 = ((if ((i1 >>> (i3 &&& 31)) &&& 1) = 1 then (i2 + (mx_i h (a + 10) i3.toNatClampNeg)) else i2) : Int32) → H_76_4 d h a i1 v2 (i3 + 1) Q))) ∧ (¬ i3 < (mx_i h (a + 7) 0) → Q (.inl (some (.int i2))) h))) : H_76_4 d h a i1 i2 i3 Q := by
  show mx_wp d 76 4 [some (.ref (a + 7)), some (.int i1), some (.int i2), some (.int i3)] [] h Q
  refine wp_steps (i' := 7) (ls' := [some (.ref (a + 7)), some (.int i1), some (.int i2), some (.int i3)]) (st' := [.int (mx_i h (a + 7) 0), .int i3]) (h' := h) (P := ((mxT (a + 7)).1 = 7 ∧ mxG h) ∧ True) 3 rfl rfl ⟨⟨(congrArg Prod.fst (sV_7 hVa)), G⟩, trivial⟩ ?_
  refine wp_br (P := True) (c := (mx_i h (a + 7) 0) ≤ i3) (t := 24) (st' := []) rfl rfl trivial (fun c1 => ?_) (fun c1 => ?_)
  · have c1 := Int32.not_lt.mpr c1
    have H := H.2 c1
    refine wp_steps (i' := 25) (ls' := [some (.ref (a + 7)), some (.int i1), some (.int i2), some (.int i3)]) (st' := [.int i2]) (h' := h) (P := True) 1 rfl rfl trivial ?_
    exact wp_end (o := .inl (some (.int i2))) (h' := h) (P := True) rfl rfl trivial H
  · have c1 := Int32.not_le.mp c1
    have H := H.1 c1
    refine wp_steps (i' := 14) (ls' := [some (.ref (a + 7)), some (.int i1), some (.int i2), some (.int i3)]) (st' := [.int 1, .int ((i1 >>> (i3 &&& 31)) &&& 1)]) (h' := h) (P := True) 6 rfl rfl trivial ?_
    have J : ∀ (v2 : Int32) (ev2 : v2 = ((if ((i1 >>> (i3 &&& 31)) &&& 1) = 1 then (i2 + (mx_i h (a + 10) i3.toNatClampNeg)) else i2) : Int32)), mx_wp d 76 22 [some (.ref (a + 7)), some (.int i1), some (.int v2), some (.int i3)] [] h Q := by
      intro v2 ev2
      have H := H.2 v2 ev2
      refine wp_steps (i' := 23) (ls' := [some (.ref (a + 7)), some (.int i1), some (.int v2), some (.int (i3 + 1))]) (st' := []) (h' := h) (P := True) 1 rfl rfl trivial ?_
      refine wp_J (j := 4) (st' := []) rfl rfl ?_
      exact H 
    have H := H.1
    refine wp_br (P := True) (c := ¬ ((i1 >>> (i3 &&& 31)) &&& 1) = 1) (t := 22) (st' := []) rfl rfl trivial (fun c3 => ?_) (fun c3 => ?_)
    · skip
      exact J _ (by rw [if_neg c3])
    · have c3 := Decidable.of_not_not c3
      have H := H.1 c3
      obtain ⟨o4, H⟩ := H
      refine wp_steps (i' := 22) (ls' := [some (.ref (a + 7)), some (.int i1), some (.int (i2 + (mx_i h (a + 10) i3.toNatClampNeg))), some (.int i3)]) (st' := []) (h' := h) (P := ((mxT (a + 7)).1 = 7 ∧ mxG h) ∧ (((mxT (a + 10)).1 = 50 ∧ mxG h) ∧ vp_in i3 (mxT (a + 10)).2) ∧ True) 7 rfl rfl ⟨⟨(congrArg Prod.fst (sV_7 hVa)), G⟩, (cA (sV_10 hVa) G o4), trivial⟩ ?_
      exact J _ (by rw [if_pos c3])
def F_76_4 (h : mxH) (a : Nat) (i1 : Int32) (z : Nat) (s : Int32) : Int32 := ((if ((i1 >>> ((nI z) &&& 31)) &&& 1) = 1 then (s + (mx_i h (a + 10) (nI z).toNatClampNeg)) else s) : Int32)
theorem lp_76_4 {d : Nat} {h : mxH} {Q : mxO → mxH → Prop} {a : Nat} {i1 : Int32} {s0 : Int32} {n : Nat} (z0 : Nat) (G : mxG h) (hVa : (mxT a).1 = 9) (hB : (mx_i h (a + 7) 0) = nI n) (hn : n < 2147483648) (hz : z0 ≤ n) (ob : ∀ z, z0 ≤ z → z < n → (((((i1 >>> ((nI z) &&& 31)) &&& 1) = 1 → (vp_in (nI z) 10 ∧ True)) ∧ (¬ ((i1 >>> ((nI z) &&& 31)) &&& 1) = 1 → True)) ∧ True)) (k : Q (.inl (some (.int (fz (F_76_4 h a i1) z0 n s0)))) h) : H_76_4 d h a i1 s0 (nI z0) Q := by
  have L : ∀ (j z : Nat), z0 ≤ z → z + j = n → H_76_4 d h a i1 (fz (F_76_4 h a i1) z0 z s0) (nI z) Q := by
    intro j
    induction j with
    | zero =>
      intro z hz0 hzn
      have hzn : z = n := by omega
      subst hzn
      refine tr_76_4 G hVa ⟨fun c9 => absurd (hB ▸ c9) Int32.lt_irrefl, fun c9 => k⟩
    | succ j ih =>
      intro z hz0 hzn
      have hih := ih (z + 1) (by omega) (by omega)
      rw [nI_succ, fz_s hz0] at hih
      have hob := ob z hz0 (by omega)
      refine tr_76_4 G hVa ⟨fun c9 => ?_, fun c9 => absurd (hB.symm ▸ nI_lt (by omega) hn) c9⟩
      obtain ⟨q0, hob⟩ := hob
      refine ⟨q0, ?_⟩
      intro v2 ev2
      subst ev2
      exact hih
  have L0 := L (n - z0) z0 (Nat.le_refl _) (by omega)
  simp only [fz_0] at L0
  exact L0
def V_76 (h : mxH) (a : Nat) (i1 : Int32) : Int32 := (fo (F_76_4 h a i1) ((mx_i h (a + 7) 0)).toNatClampNeg 0)
theorem sp_76 {d : Nat} {h : mxH} {Q : mxO → mxH → Prop} {a : Nat} {i1 : Int32} (G : mxG h) (hVa : (mxT a).1 = 9) (hcb : cB (mx_i h (a + 7) 0) 10) (k : Q (.inl (some (.int (V_76 h a i1)))) h) : mx_wp d 76 0 (mx_fr 76 [.ref (a + 7), .int i1]) [] h Q := by
  unfold V_76 at k
  obtain ⟨n, hn, hB⟩ := hcb
  rw [hB, nI_clamp (by omega)] at k
  refine tr_76_0 G hVa ?_
  refine lp_76_4 (s0 := 0) 0 G hVa hB (by omega) (Nat.zero_le _) (fun z _ hz => ⟨⟨fun _ => ⟨vp_in_nI (by omega) (by decide), trivial⟩, fun _ => trivial⟩, trivial⟩) ?_
  simp only [fz_fo]
  exact k
/-! 306: java/lang/Integer.bitCount(I)I -/
set_option maxRecDepth 8000 in
theorem tr_306_0 {d : Nat} {h : mxH} {Q : mxO → mxH → Prop} {i0 : Int32} (G : mxG h)  (H : Q (.inl (some (.int ((((((((i0 - ((i0.toUInt32 >>> ((1 : Int32).toUInt32 &&& Int32.toUInt32 31)).toInt32 &&& 1431655765)) &&& 858993459) + (((i0 - ((i0.toUInt32 >>> ((1 : Int32).toUInt32 &&& Int32.toUInt32 31)).toInt32 &&& 1431655765)).toUInt32 >>> ((2 : Int32).toUInt32 &&& Int32.toUInt32 31)).toInt32 &&& 858993459)) + ((((i0 - ((i0.toUInt32 >>> ((1 : Int32).toUInt32 &&& Int32.toUInt32 31)).toInt32 &&& 1431655765)) &&& 858993459) + (((i0 - ((i0.toUInt32 >>> ((1 : Int32).toUInt32 &&& Int32.toUInt32 31)).toInt32 &&& 1431655765)).toUInt32 >>> ((2 : Int32).toUInt32 &&& Int32.toUInt32 31)).toInt32 &&& 858993459)).toUInt32 >>> ((4 : Int32).toUInt32 &&& Int32.toUInt32 31)).toInt32) &&& 252645135) + ((((((i0 - ((i0.toUInt32 >>> ((1 : Int32).toUInt32 &&& Int32.toUInt32 31)).toInt32 &&& 1431655765)) &&& 858993459) + (((i0 - ((i0.toUInt32 >>> ((1 : Int32).toUInt32 &&& Int32.toUInt32 31)).toInt32 &&& 1431655765)).toUInt32 >>> ((2 : Int32).toUInt32 &&& Int32.toUInt32 31)).toInt32 &&& 858993459)) + ((((i0 - ((i0.toUInt32 >>> ((1 : Int32).toUInt32 &&& Int32.toUInt32 31)).toInt32 &&& 1431655765)) &&& 858993459) + (((i0 - ((i0.toUInt32 >>> ((1 : Int32).toUInt32 &&& Int32.toUInt32 31)).toInt32 &&& 1431655765)).toUInt32 >>> ((2 : Int32).toUInt32 &&& Int32.toUInt32 31)).toInt32 &&& 858993459)).toUInt32 >>> ((4 : Int32).toUInt32 &&& Int32.toUInt32 31)).toInt32) &&& 252645135).toUInt32 >>> ((8 : Int32).toUInt32 &&& Int32.toUInt32 31)).toInt32) + (((((((i0 - ((i0.toUInt32 >>> ((1 : Int32).toUInt32 &&& Int32.toUInt32 31)).toInt32 &&& 1431655765)) &&& 858993459) + (((i0 - ((i0.toUInt32 >>> ((1 : Int32).toUInt32 &&& Int32.toUInt32 31)).toInt32 &&& 1431655765)).toUInt32 >>> ((2 : Int32).toUInt32 &&& Int32.toUInt32 31)).toInt32 &&& 858993459)) + ((((i0 - ((i0.toUInt32 >>> ((1 : Int32).toUInt32 &&& Int32.toUInt32 31)).toInt32 &&& 1431655765)) &&& 858993459) + (((i0 - ((i0.toUInt32 >>> ((1 : Int32).toUInt32 &&& Int32.toUInt32 31)).toInt32 &&& 1431655765)).toUInt32 >>> ((2 : Int32).toUInt32 &&& Int32.toUInt32 31)).toInt32 &&& 858993459)).toUInt32 >>> ((4 : Int32).toUInt32 &&& Int32.toUInt32 31)).toInt32) &&& 252645135) + ((((((i0 - ((i0.toUInt32 >>> ((1 : Int32).toUInt32 &&& Int32.toUInt32 31)).toInt32 &&& 1431655765)) &&& 858993459) + (((i0 - ((i0.toUInt32 >>> ((1 : Int32).toUInt32 &&& Int32.toUInt32 31)).toInt32 &&& 1431655765)).toUInt32 >>> ((2 : Int32).toUInt32 &&& Int32.toUInt32 31)).toInt32 &&& 858993459)) + ((((i0 - ((i0.toUInt32 >>> ((1 : Int32).toUInt32 &&& Int32.toUInt32 31)).toInt32 &&& 1431655765)) &&& 858993459) + (((i0 - ((i0.toUInt32 >>> ((1 : Int32).toUInt32 &&& Int32.toUInt32 31)).toInt32 &&& 1431655765)).toUInt32 >>> ((2 : Int32).toUInt32 &&& Int32.toUInt32 31)).toInt32 &&& 858993459)).toUInt32 >>> ((4 : Int32).toUInt32 &&& Int32.toUInt32 31)).toInt32) &&& 252645135).toUInt32 >>> ((8 : Int32).toUInt32 &&& Int32.toUInt32 31)).toInt32).toUInt32 >>> ((16 : Int32).toUInt32 &&& Int32.toUInt32 31)).toInt32) &&& 63)))) h) : mx_wp d 306 0 (mx_fr 306 [.int i0]) [] h Q := by
  show mx_wp d 306 0 [some (.int i0)] [] h Q
  refine wp_steps (i' := 41) (ls' := [some (.int (((((((i0 - ((i0.toUInt32 >>> ((1 : Int32).toUInt32 &&& Int32.toUInt32 31)).toInt32 &&& 1431655765)) &&& 858993459) + (((i0 - ((i0.toUInt32 >>> ((1 : Int32).toUInt32 &&& Int32.toUInt32 31)).toInt32 &&& 1431655765)).toUInt32 >>> ((2 : Int32).toUInt32 &&& Int32.toUInt32 31)).toInt32 &&& 858993459)) + ((((i0 - ((i0.toUInt32 >>> ((1 : Int32).toUInt32 &&& Int32.toUInt32 31)).toInt32 &&& 1431655765)) &&& 858993459) + (((i0 - ((i0.toUInt32 >>> ((1 : Int32).toUInt32 &&& Int32.toUInt32 31)).toInt32 &&& 1431655765)).toUInt32 >>> ((2 : Int32).toUInt32 &&& Int32.toUInt32 31)).toInt32 &&& 858993459)).toUInt32 >>> ((4 : Int32).toUInt32 &&& Int32.toUInt32 31)).toInt32) &&& 252645135) + ((((((i0 - ((i0.toUInt32 >>> ((1 : Int32).toUInt32 &&& Int32.toUInt32 31)).toInt32 &&& 1431655765)) &&& 858993459) + (((i0 - ((i0.toUInt32 >>> ((1 : Int32).toUInt32 &&& Int32.toUInt32 31)).toInt32 &&& 1431655765)).toUInt32 >>> ((2 : Int32).toUInt32 &&& Int32.toUInt32 31)).toInt32 &&& 858993459)) + ((((i0 - ((i0.toUInt32 >>> ((1 : Int32).toUInt32 &&& Int32.toUInt32 31)).toInt32 &&& 1431655765)) &&& 858993459) + (((i0 - ((i0.toUInt32 >>> ((1 : Int32).toUInt32 &&& Int32.toUInt32 31)).toInt32 &&& 1431655765)).toUInt32 >>> ((2 : Int32).toUInt32 &&& Int32.toUInt32 31)).toInt32 &&& 858993459)).toUInt32 >>> ((4 : Int32).toUInt32 &&& Int32.toUInt32 31)).toInt32) &&& 252645135).toUInt32 >>> ((8 : Int32).toUInt32 &&& Int32.toUInt32 31)).toInt32) + (((((((i0 - ((i0.toUInt32 >>> ((1 : Int32).toUInt32 &&& Int32.toUInt32 31)).toInt32 &&& 1431655765)) &&& 858993459) + (((i0 - ((i0.toUInt32 >>> ((1 : Int32).toUInt32 &&& Int32.toUInt32 31)).toInt32 &&& 1431655765)).toUInt32 >>> ((2 : Int32).toUInt32 &&& Int32.toUInt32 31)).toInt32 &&& 858993459)) + ((((i0 - ((i0.toUInt32 >>> ((1 : Int32).toUInt32 &&& Int32.toUInt32 31)).toInt32 &&& 1431655765)) &&& 858993459) + (((i0 - ((i0.toUInt32 >>> ((1 : Int32).toUInt32 &&& Int32.toUInt32 31)).toInt32 &&& 1431655765)).toUInt32 >>> ((2 : Int32).toUInt32 &&& Int32.toUInt32 31)).toInt32 &&& 858993459)).toUInt32 >>> ((4 : Int32).toUInt32 &&& Int32.toUInt32 31)).toInt32) &&& 252645135) + ((((((i0 - ((i0.toUInt32 >>> ((1 : Int32).toUInt32 &&& Int32.toUInt32 31)).toInt32 &&& 1431655765)) &&& 858993459) + (((i0 - ((i0.toUInt32 >>> ((1 : Int32).toUInt32 &&& Int32.toUInt32 31)).toInt32 &&& 1431655765)).toUInt32 >>> ((2 : Int32).toUInt32 &&& Int32.toUInt32 31)).toInt32 &&& 858993459)) + ((((i0 - ((i0.toUInt32 >>> ((1 : Int32).toUInt32 &&& Int32.toUInt32 31)).toInt32 &&& 1431655765)) &&& 858993459) + (((i0 - ((i0.toUInt32 >>> ((1 : Int32).toUInt32 &&& Int32.toUInt32 31)).toInt32 &&& 1431655765)).toUInt32 >>> ((2 : Int32).toUInt32 &&& Int32.toUInt32 31)).toInt32 &&& 858993459)).toUInt32 >>> ((4 : Int32).toUInt32 &&& Int32.toUInt32 31)).toInt32) &&& 252645135).toUInt32 >>> ((8 : Int32).toUInt32 &&& Int32.toUInt32 31)).toInt32).toUInt32 >>> ((16 : Int32).toUInt32 &&& Int32.toUInt32 31)).toInt32))]) (st' := [.int ((((((((i0 - ((i0.toUInt32 >>> ((1 : Int32).toUInt32 &&& Int32.toUInt32 31)).toInt32 &&& 1431655765)) &&& 858993459) + (((i0 - ((i0.toUInt32 >>> ((1 : Int32).toUInt32 &&& Int32.toUInt32 31)).toInt32 &&& 1431655765)).toUInt32 >>> ((2 : Int32).toUInt32 &&& Int32.toUInt32 31)).toInt32 &&& 858993459)) + ((((i0 - ((i0.toUInt32 >>> ((1 : Int32).toUInt32 &&& Int32.toUInt32 31)).toInt32 &&& 1431655765)) &&& 858993459) + (((i0 - ((i0.toUInt32 >>> ((1 : Int32).toUInt32 &&& Int32.toUInt32 31)).toInt32 &&& 1431655765)).toUInt32 >>> ((2 : Int32).toUInt32 &&& Int32.toUInt32 31)).toInt32 &&& 858993459)).toUInt32 >>> ((4 : Int32).toUInt32 &&& Int32.toUInt32 31)).toInt32) &&& 252645135) + ((((((i0 - ((i0.toUInt32 >>> ((1 : Int32).toUInt32 &&& Int32.toUInt32 31)).toInt32 &&& 1431655765)) &&& 858993459) + (((i0 - ((i0.toUInt32 >>> ((1 : Int32).toUInt32 &&& Int32.toUInt32 31)).toInt32 &&& 1431655765)).toUInt32 >>> ((2 : Int32).toUInt32 &&& Int32.toUInt32 31)).toInt32 &&& 858993459)) + ((((i0 - ((i0.toUInt32 >>> ((1 : Int32).toUInt32 &&& Int32.toUInt32 31)).toInt32 &&& 1431655765)) &&& 858993459) + (((i0 - ((i0.toUInt32 >>> ((1 : Int32).toUInt32 &&& Int32.toUInt32 31)).toInt32 &&& 1431655765)).toUInt32 >>> ((2 : Int32).toUInt32 &&& Int32.toUInt32 31)).toInt32 &&& 858993459)).toUInt32 >>> ((4 : Int32).toUInt32 &&& Int32.toUInt32 31)).toInt32) &&& 252645135).toUInt32 >>> ((8 : Int32).toUInt32 &&& Int32.toUInt32 31)).toInt32) + (((((((i0 - ((i0.toUInt32 >>> ((1 : Int32).toUInt32 &&& Int32.toUInt32 31)).toInt32 &&& 1431655765)) &&& 858993459) + (((i0 - ((i0.toUInt32 >>> ((1 : Int32).toUInt32 &&& Int32.toUInt32 31)).toInt32 &&& 1431655765)).toUInt32 >>> ((2 : Int32).toUInt32 &&& Int32.toUInt32 31)).toInt32 &&& 858993459)) + ((((i0 - ((i0.toUInt32 >>> ((1 : Int32).toUInt32 &&& Int32.toUInt32 31)).toInt32 &&& 1431655765)) &&& 858993459) + (((i0 - ((i0.toUInt32 >>> ((1 : Int32).toUInt32 &&& Int32.toUInt32 31)).toInt32 &&& 1431655765)).toUInt32 >>> ((2 : Int32).toUInt32 &&& Int32.toUInt32 31)).toInt32 &&& 858993459)).toUInt32 >>> ((4 : Int32).toUInt32 &&& Int32.toUInt32 31)).toInt32) &&& 252645135) + ((((((i0 - ((i0.toUInt32 >>> ((1 : Int32).toUInt32 &&& Int32.toUInt32 31)).toInt32 &&& 1431655765)) &&& 858993459) + (((i0 - ((i0.toUInt32 >>> ((1 : Int32).toUInt32 &&& Int32.toUInt32 31)).toInt32 &&& 1431655765)).toUInt32 >>> ((2 : Int32).toUInt32 &&& Int32.toUInt32 31)).toInt32 &&& 858993459)) + ((((i0 - ((i0.toUInt32 >>> ((1 : Int32).toUInt32 &&& Int32.toUInt32 31)).toInt32 &&& 1431655765)) &&& 858993459) + (((i0 - ((i0.toUInt32 >>> ((1 : Int32).toUInt32 &&& Int32.toUInt32 31)).toInt32 &&& 1431655765)).toUInt32 >>> ((2 : Int32).toUInt32 &&& Int32.toUInt32 31)).toInt32 &&& 858993459)).toUInt32 >>> ((4 : Int32).toUInt32 &&& Int32.toUInt32 31)).toInt32) &&& 252645135).toUInt32 >>> ((8 : Int32).toUInt32 &&& Int32.toUInt32 31)).toInt32).toUInt32 >>> ((16 : Int32).toUInt32 &&& Int32.toUInt32 31)).toInt32) &&& 63)]) (h' := h) (P := True) 41 rfl rfl trivial ?_
  exact wp_end (o := .inl (some (.int ((((((((i0 - ((i0.toUInt32 >>> ((1 : Int32).toUInt32 &&& Int32.toUInt32 31)).toInt32 &&& 1431655765)) &&& 858993459) + (((i0 - ((i0.toUInt32 >>> ((1 : Int32).toUInt32 &&& Int32.toUInt32 31)).toInt32 &&& 1431655765)).toUInt32 >>> ((2 : Int32).toUInt32 &&& Int32.toUInt32 31)).toInt32 &&& 858993459)) + ((((i0 - ((i0.toUInt32 >>> ((1 : Int32).toUInt32 &&& Int32.toUInt32 31)).toInt32 &&& 1431655765)) &&& 858993459) + (((i0 - ((i0.toUInt32 >>> ((1 : Int32).toUInt32 &&& Int32.toUInt32 31)).toInt32 &&& 1431655765)).toUInt32 >>> ((2 : Int32).toUInt32 &&& Int32.toUInt32 31)).toInt32 &&& 858993459)).toUInt32 >>> ((4 : Int32).toUInt32 &&& Int32.toUInt32 31)).toInt32) &&& 252645135) + ((((((i0 - ((i0.toUInt32 >>> ((1 : Int32).toUInt32 &&& Int32.toUInt32 31)).toInt32 &&& 1431655765)) &&& 858993459) + (((i0 - ((i0.toUInt32 >>> ((1 : Int32).toUInt32 &&& Int32.toUInt32 31)).toInt32 &&& 1431655765)).toUInt32 >>> ((2 : Int32).toUInt32 &&& Int32.toUInt32 31)).toInt32 &&& 858993459)) + ((((i0 - ((i0.toUInt32 >>> ((1 : Int32).toUInt32 &&& Int32.toUInt32 31)).toInt32 &&& 1431655765)) &&& 858993459) + (((i0 - ((i0.toUInt32 >>> ((1 : Int32).toUInt32 &&& Int32.toUInt32 31)).toInt32 &&& 1431655765)).toUInt32 >>> ((2 : Int32).toUInt32 &&& Int32.toUInt32 31)).toInt32 &&& 858993459)).toUInt32 >>> ((4 : Int32).toUInt32 &&& Int32.toUInt32 31)).toInt32) &&& 252645135).toUInt32 >>> ((8 : Int32).toUInt32 &&& Int32.toUInt32 31)).toInt32) + (((((((i0 - ((i0.toUInt32 >>> ((1 : Int32).toUInt32 &&& Int32.toUInt32 31)).toInt32 &&& 1431655765)) &&& 858993459) + (((i0 - ((i0.toUInt32 >>> ((1 : Int32).toUInt32 &&& Int32.toUInt32 31)).toInt32 &&& 1431655765)).toUInt32 >>> ((2 : Int32).toUInt32 &&& Int32.toUInt32 31)).toInt32 &&& 858993459)) + ((((i0 - ((i0.toUInt32 >>> ((1 : Int32).toUInt32 &&& Int32.toUInt32 31)).toInt32 &&& 1431655765)) &&& 858993459) + (((i0 - ((i0.toUInt32 >>> ((1 : Int32).toUInt32 &&& Int32.toUInt32 31)).toInt32 &&& 1431655765)).toUInt32 >>> ((2 : Int32).toUInt32 &&& Int32.toUInt32 31)).toInt32 &&& 858993459)).toUInt32 >>> ((4 : Int32).toUInt32 &&& Int32.toUInt32 31)).toInt32) &&& 252645135) + ((((((i0 - ((i0.toUInt32 >>> ((1 : Int32).toUInt32 &&& Int32.toUInt32 31)).toInt32 &&& 1431655765)) &&& 858993459) + (((i0 - ((i0.toUInt32 >>> ((1 : Int32).toUInt32 &&& Int32.toUInt32 31)).toInt32 &&& 1431655765)).toUInt32 >>> ((2 : Int32).toUInt32 &&& Int32.toUInt32 31)).toInt32 &&& 858993459)) + ((((i0 - ((i0.toUInt32 >>> ((1 : Int32).toUInt32 &&& Int32.toUInt32 31)).toInt32 &&& 1431655765)) &&& 858993459) + (((i0 - ((i0.toUInt32 >>> ((1 : Int32).toUInt32 &&& Int32.toUInt32 31)).toInt32 &&& 1431655765)).toUInt32 >>> ((2 : Int32).toUInt32 &&& Int32.toUInt32 31)).toInt32 &&& 858993459)).toUInt32 >>> ((4 : Int32).toUInt32 &&& Int32.toUInt32 31)).toInt32) &&& 252645135).toUInt32 >>> ((8 : Int32).toUInt32 &&& Int32.toUInt32 31)).toInt32).toUInt32 >>> ((16 : Int32).toUInt32 &&& Int32.toUInt32 31)).toInt32) &&& 63)))) (h' := h) (P := True) rfl rfl trivial H
def V_306 (h : mxH) (i0 : Int32) : Int32 := ((((((((i0 - ((i0.toUInt32 >>> ((1 : Int32).toUInt32 &&& Int32.toUInt32 31)).toInt32 &&& 1431655765)) &&& 858993459) + (((i0 - ((i0.toUInt32 >>> ((1 : Int32).toUInt32 &&& Int32.toUInt32 31)).toInt32 &&& 1431655765)).toUInt32 >>> ((2 : Int32).toUInt32 &&& Int32.toUInt32 31)).toInt32 &&& 858993459)) + ((((i0 - ((i0.toUInt32 >>> ((1 : Int32).toUInt32 &&& Int32.toUInt32 31)).toInt32 &&& 1431655765)) &&& 858993459) + (((i0 - ((i0.toUInt32 >>> ((1 : Int32).toUInt32 &&& Int32.toUInt32 31)).toInt32 &&& 1431655765)).toUInt32 >>> ((2 : Int32).toUInt32 &&& Int32.toUInt32 31)).toInt32 &&& 858993459)).toUInt32 >>> ((4 : Int32).toUInt32 &&& Int32.toUInt32 31)).toInt32) &&& 252645135) + ((((((i0 - ((i0.toUInt32 >>> ((1 : Int32).toUInt32 &&& Int32.toUInt32 31)).toInt32 &&& 1431655765)) &&& 858993459) + (((i0 - ((i0.toUInt32 >>> ((1 : Int32).toUInt32 &&& Int32.toUInt32 31)).toInt32 &&& 1431655765)).toUInt32 >>> ((2 : Int32).toUInt32 &&& Int32.toUInt32 31)).toInt32 &&& 858993459)) + ((((i0 - ((i0.toUInt32 >>> ((1 : Int32).toUInt32 &&& Int32.toUInt32 31)).toInt32 &&& 1431655765)) &&& 858993459) + (((i0 - ((i0.toUInt32 >>> ((1 : Int32).toUInt32 &&& Int32.toUInt32 31)).toInt32 &&& 1431655765)).toUInt32 >>> ((2 : Int32).toUInt32 &&& Int32.toUInt32 31)).toInt32 &&& 858993459)).toUInt32 >>> ((4 : Int32).toUInt32 &&& Int32.toUInt32 31)).toInt32) &&& 252645135).toUInt32 >>> ((8 : Int32).toUInt32 &&& Int32.toUInt32 31)).toInt32) + (((((((i0 - ((i0.toUInt32 >>> ((1 : Int32).toUInt32 &&& Int32.toUInt32 31)).toInt32 &&& 1431655765)) &&& 858993459) + (((i0 - ((i0.toUInt32 >>> ((1 : Int32).toUInt32 &&& Int32.toUInt32 31)).toInt32 &&& 1431655765)).toUInt32 >>> ((2 : Int32).toUInt32 &&& Int32.toUInt32 31)).toInt32 &&& 858993459)) + ((((i0 - ((i0.toUInt32 >>> ((1 : Int32).toUInt32 &&& Int32.toUInt32 31)).toInt32 &&& 1431655765)) &&& 858993459) + (((i0 - ((i0.toUInt32 >>> ((1 : Int32).toUInt32 &&& Int32.toUInt32 31)).toInt32 &&& 1431655765)).toUInt32 >>> ((2 : Int32).toUInt32 &&& Int32.toUInt32 31)).toInt32 &&& 858993459)).toUInt32 >>> ((4 : Int32).toUInt32 &&& Int32.toUInt32 31)).toInt32) &&& 252645135) + ((((((i0 - ((i0.toUInt32 >>> ((1 : Int32).toUInt32 &&& Int32.toUInt32 31)).toInt32 &&& 1431655765)) &&& 858993459) + (((i0 - ((i0.toUInt32 >>> ((1 : Int32).toUInt32 &&& Int32.toUInt32 31)).toInt32 &&& 1431655765)).toUInt32 >>> ((2 : Int32).toUInt32 &&& Int32.toUInt32 31)).toInt32 &&& 858993459)) + ((((i0 - ((i0.toUInt32 >>> ((1 : Int32).toUInt32 &&& Int32.toUInt32 31)).toInt32 &&& 1431655765)) &&& 858993459) + (((i0 - ((i0.toUInt32 >>> ((1 : Int32).toUInt32 &&& Int32.toUInt32 31)).toInt32 &&& 1431655765)).toUInt32 >>> ((2 : Int32).toUInt32 &&& Int32.toUInt32 31)).toInt32 &&& 858993459)).toUInt32 >>> ((4 : Int32).toUInt32 &&& Int32.toUInt32 31)).toInt32) &&& 252645135).toUInt32 >>> ((8 : Int32).toUInt32 &&& Int32.toUInt32 31)).toInt32).toUInt32 >>> ((16 : Int32).toUInt32 &&& Int32.toUInt32 31)).toInt32) &&& 63)
theorem sp_306 {d : Nat} {h : mxH} {Q : mxO → mxH → Prop} {i0 : Int32} (G : mxG h)  (k : Q (.inl (some (.int (V_306 h i0)))) h) : mx_wp d 306 0 (mx_fr 306 [.int i0]) [] h Q := by
  unfold V_306 at k
  refine tr_306_0 G  ?_
  exact k
/-! 7: StoneBacks$Choices.toPutOff(LStoneBacks$Valley;I)I -/
def H_7_23 (d : Nat) (h : mxH) (a : Nat) (i2 : Int32) (i3 : Int32) (i4 : Int32) (i5 : Int32) (i6 : Int32) (Q : mxO → mxH → Prop) : Prop := ∀ (w1 : Option Value), mx_wp d 7 23 [some (.ref a), w1, some (.int i2), some (.int i3), some (.int i4), some (.int i5), some (.int i6)] [] h Q
set_option maxRecDepth 8000 in
theorem tr_7_0 {d : Nat} {h : mxH} {Q : mxO → mxH → Prop} {a : Nat} {i1 : Int32} (G : mxG h) (hVa : (mxT a).1 = 9) (H : (cB (mx_i h (a + 7) 0) 10 ∧ (vp_in i1 6 ∧ H_7_23 (d + 2) h a (V_71 h a i1) (V_76 h a (V_71 h a i1)) (if (mx_i h (a + 3) i1.toNatClampNeg) < (mx_i h a 5) then (mx_i h (a + 3) i1.toNatClampNeg) else (mx_i h a 5)) (V_71 h a i1) 0 Q))) : mx_wp (d + 2) 7 0 (mx_fr 7 [.ref a, .int i1]) [] h Q := by
  show mx_wp (d + 2) 7 0 [some (.ref a), some (.int i1), none, none, none, none, none] [] h Q
  refine wp_steps (i' := 3) (ls' := [some (.ref a), some (.int i1), none, none, none, none, none]) (st' := [.int i1, .ref (a + 7)]) (h' := h) (P := ((mxT a).1 = 9 ∧ mxG h) ∧ True) 3 rfl rfl ⟨⟨(congrArg Prod.fst (sV_0 hVa)), G⟩, trivial⟩ ?_
  obtain ⟨o1, H⟩ := H
  refine wp_call (b := false) (y' := 71) (as := [.ref (a + 7), .int i1]) (rest := []) (P := ((mxT (a + 7)).1 = mxRc 71 ∧ mxG h)) rfl (by with_unfolding_all rfl) ⟨(congrArg Prod.fst (sV_7 hVa)), G⟩ (Nat.le_of_ble_eq_true rfl) (sp_71 G hVa o1 ?_)
  show mx_wp (d + 2) 7 4 [some (.ref a), some (.int i1), none, none, none, none, none] [.int (V_71 h a i1)] h Q
  refine wp_steps (i' := 8) (ls' := [some (.ref a), some (.int i1), some (.int (V_71 h a i1)), none, none, none, none]) (st' := [.int (V_71 h a i1), .ref (a + 7)]) (h' := h) (P := ((mxT a).1 = 9 ∧ mxG h) ∧ True) 4 rfl rfl ⟨⟨(congrArg Prod.fst (sV_0 hVa)), G⟩, trivial⟩ ?_
  refine wp_call (b := false) (y' := 76) (as := [.ref (a + 7), .int (V_71 h a i1)]) (rest := []) (P := ((mxT (a + 7)).1 = mxRc 76 ∧ mxG h)) rfl (by with_unfolding_all rfl) ⟨(congrArg Prod.fst (sV_7 hVa)), G⟩ (Nat.le_of_ble_eq_true rfl) (sp_76 G hVa o1 ?_)
  show mx_wp (d + 2) 7 9 [some (.ref a), some (.int i1), some (.int (V_71 h a i1)), none, none, none, none] [.int (V_76 h a (V_71 h a i1))] h Q
  obtain ⟨o2, H⟩ := H
  refine wp_steps (i' := 23) (ls' := [some (.ref a), some (.int i1), some (.int (V_71 h a i1)), some (.int (V_76 h a (V_71 h a i1))), some (.int (if (mx_i h (a + 3) i1.toNatClampNeg) < (mx_i h a 5) then (mx_i h (a + 3) i1.toNatClampNeg) else (mx_i h a 5))), some (.int (V_71 h a i1)), some (.int 0)]) (st' := []) (h' := h) (P := ((mxT a).1 = 9 ∧ mxG h) ∧ ((mxT a).1 = 9 ∧ mxG h) ∧ ((mxT (a + 1)).1 = 5 ∧ mxG h) ∧ (((mxT (a + 3)).1 = 50 ∧ mxG h) ∧ vp_in i1 (mxT (a + 3)).2) ∧ ((([] : List Value).map mx_cat).sum ≤ 8) ∧ True) 14 rfl rfl ⟨⟨(congrArg Prod.fst (sV_0 hVa)), G⟩, ⟨(congrArg Prod.fst (sV_0 hVa)), G⟩, ⟨(congrArg Prod.fst (sV_1 hVa)), G⟩, (cA (sV_3 hVa) G o2), (Nat.le_of_ble_eq_true rfl), trivial⟩ ?_
  exact H _
set_option maxRecDepth 8000 in
theorem tr_7_23 {d : Nat} {h : mxH} {Q : mxO → mxH → Prop} {a : Nat} {i2 : Int32} {i3 : Int32} {i4 : Int32} {i5 : Int32} {i6 : Int32} (G : mxG h) (hVa : (mxT a).1 = 9) (H : ((i6 < i2 → ((((i6 &&& (i2 ^^^ (-1))) = 0 → (((V_306 h i6) < (V_306 h i5) → (cB (mx_i h (a + 7) 0) 10 ∧ True)) ∧ (¬ (V_306 h i6) < (V_306 h i5) → True))) ∧ (¬ (i6 &&& (i2 ^^^ (-1))) = 0 → True)) ∧ (∀ (v2 : Int32), v2 = ((if (i6 &&& (i2 ^^^ (-1))) = 0 then (if (V_306 h i6) < (V_306 h i5) then (if i4 < (i3 - (V_76 h a i6)) then i5 else i6) else i5) else i5) : Int32) → H_7_23 (d + 2) h a i2 i3 i4 v2 (i6 + 1) Q))) ∧ (¬ i6 < i2 → Q (.inl (some (.int i5))) h))) : H_7_23 (d + 2) h a i2 i3 i4 i5 i6 Q := by
  intro w1
  show mx_wp (d + 2) 7 23 [some (.ref a), w1, some (.int i2), some (.int i3), some (.int i4), some (.int i5), some (.int i6)] [] h Q
  refine wp_steps (i' := 25) (ls' := [some (.ref a), w1, some (.int i2), some (.int i3), some (.int i4), some (.int i5), some (.int i6)]) (st' := [.int i2, .int i6]) (h' := h) (P := True) 2 rfl rfl trivial ?_
  refine wp_br (P := True) (c := i2 ≤ i6) (t := 49) (st' := []) rfl rfl trivial (fun c1 => ?_) (fun c1 => ?_)
  · have c1 := Int32.not_lt.mpr c1
    have H := H.2 c1
    refine wp_steps (i' := 50) (ls' := [some (.ref a), w1, some (.int i2), some (.int i3), some (.int i4), some (.int i5), some (.int i6)]) (st' := [.int i5]) (h' := h) (P := True) 1 rfl rfl trivial ?_
    exact wp_end (o := .inl (some (.int i5))) (h' := h) (P := True) rfl rfl trivial H
  · have c1 := Int32.not_le.mp c1
    have H := H.1 c1
    refine wp_steps (i' := 31) (ls' := [some (.ref a), w1, some (.int i2), some (.int i3), some (.int i4), some (.int i5), some (.int i6)]) (st' := [.int (i6 &&& (i2 ^^^ (-1)))]) (h' := h) (P := True) 5 rfl rfl trivial ?_
    have J : ∀ (v2 : Int32) (ev2 : v2 = ((if (i6 &&& (i2 ^^^ (-1))) = 0 then (if (V_306 h i6) < (V_306 h i5) then (if i4 < (i3 - (V_76 h a i6)) then i5 else i6) else i5) else i5) : Int32)), mx_wp (d + 2) 7 47 [some (.ref a), w1, some (.int i2), some (.int i3), some (.int i4), some (.int v2), some (.int i6)] [] h Q := by
      intro v2 ev2
      have H := H.2 v2 ev2
      refine wp_steps (i' := 48) (ls' := [some (.ref a), w1, some (.int i2), some (.int i3), some (.int i4), some (.int v2), some (.int (i6 + 1))]) (st' := []) (h' := h) (P := True) 1 rfl rfl trivial ?_
      refine wp_J (j := 23) (st' := []) rfl rfl ?_
      exact H _
    have H := H.1
    refine wp_br (P := True) (c := ¬ (i6 &&& (i2 ^^^ (-1))) = 0) (t := 47) (st' := []) rfl rfl trivial (fun c3 => ?_) (fun c3 => ?_)
    · skip
      exact J _ (by rw [if_neg c3])
    · have c3 := Decidable.of_not_not c3
      have H := H.1 c3
      refine wp_steps (i' := 33) (ls' := [some (.ref a), w1, some (.int i2), some (.int i3), some (.int i4), some (.int i5), some (.int i6)]) (st' := [.int i6]) (h' := h) (P := True) 1 rfl rfl trivial ?_
      refine wp_call (b := false) (y' := 306) (as := [.int i6]) (rest := []) (P := True) rfl (by with_unfolding_all rfl) trivial (Nat.le_of_ble_eq_true rfl) (sp_306 G ?_)
      show mx_wp (d + 2) 7 34 [some (.ref a), w1, some (.int i2), some (.int i3), some (.int i4), some (.int i5), some (.int i6)] [.int (V_306 h i6)] h Q
      refine wp_steps (i' := 35) (ls' := [some (.ref a), w1, some (.int i2), some (.int i3), some (.int i4), some (.int i5), some (.int i6)]) (st' := [.int i5, .int (V_306 h i6)]) (h' := h) (P := True) 1 rfl rfl trivial ?_
      refine wp_call (b := false) (y' := 306) (as := [.int i5]) (rest := [.int (V_306 h i6)]) (P := True) rfl (by with_unfolding_all rfl) trivial (Nat.le_of_ble_eq_true rfl) (sp_306 G ?_)
      show mx_wp (d + 2) 7 36 [some (.ref a), w1, some (.int i2), some (.int i3), some (.int i4), some (.int i5), some (.int i6)] [.int (V_306 h i5), .int (V_306 h i6)] h Q
      refine wp_br (P := True) (c := (V_306 h i5) ≤ (V_306 h i6)) (t := 47) (st' := []) rfl rfl trivial (fun c4 => ?_) (fun c4 => ?_)
      · have c4 := Int32.not_lt.mpr c4
        exact J _ (by rw [if_pos c3, if_neg c4])
      · have c4 := Int32.not_le.mp c4
        have H := H.1 c4
        refine wp_steps (i' := 41) (ls' := [some (.ref a), w1, some (.int i2), some (.int i3), some (.int i4), some (.int i5), some (.int i6)]) (st' := [.int i6, .ref (a + 7), .int i3]) (h' := h) (P := ((mxT a).1 = 9 ∧ mxG h) ∧ True) 4 rfl rfl ⟨⟨(congrArg Prod.fst (sV_0 hVa)), G⟩, trivial⟩ ?_
        obtain ⟨o5, H⟩ := H
        refine wp_call (b := false) (y' := 76) (as := [.ref (a + 7), .int i6]) (rest := [.int i3]) (P := ((mxT (a + 7)).1 = mxRc 76 ∧ mxG h)) rfl (by with_unfolding_all rfl) ⟨(congrArg Prod.fst (sV_7 hVa)), G⟩ (Nat.le_of_ble_eq_true rfl) (sp_76 G hVa o5 ?_)
        show mx_wp (d + 2) 7 42 [some (.ref a), w1, some (.int i2), some (.int i3), some (.int i4), some (.int i5), some (.int i6)] [.int (V_76 h a i6), .int i3] h Q
        refine wp_steps (i' := 44) (ls' := [some (.ref a), w1, some (.int i2), some (.int i3), some (.int i4), some (.int i5), some (.int i6)]) (st' := [.int i4, .int (i3 - (V_76 h a i6))]) (h' := h) (P := True) 2 rfl rfl trivial ?_
        refine wp_br (P := True) (c := i4 < (i3 - (V_76 h a i6))) (t := 47) (st' := []) rfl rfl trivial (fun c6 => ?_) (fun c6 => ?_)
        · skip
          exact J _ (by rw [if_pos c3, if_pos c4, if_pos c6])
        · skip
          refine wp_steps (i' := 47) (ls' := [some (.ref a), w1, some (.int i2), some (.int i3), some (.int i4), some (.int i6), some (.int i6)]) (st' := []) (h' := h) (P := True) 2 rfl rfl trivial ?_
          exact J _ (by rw [if_pos c3, if_pos c4, if_neg c6])
def F_7_23 (h : mxH) (a : Nat) (i2 : Int32) (i3 : Int32) (i4 : Int32) (z : Nat) (s : Int32) : Int32 := ((if ((nI z) &&& (i2 ^^^ (-1))) = 0 then (if (V_306 h (nI z)) < (V_306 h s) then (if i4 < (i3 - (V_76 h a (nI z))) then s else (nI z)) else s) else s) : Int32)
theorem lp_7_23 {d : Nat} {h : mxH} {Q : mxO → mxH → Prop} {a : Nat} {i2 : Int32} {i3 : Int32} {i4 : Int32} {s0 : Int32} {n : Nat} (z0 : Nat) (G : mxG h) (hVa : (mxT a).1 = 9) (hB : i2 = nI n) (hn : n < 2147483648) (hz : z0 ≤ n) (ob : ∀ z, z0 ≤ z → z < n → (((((nI z) &&& (i2 ^^^ (-1))) = 0 → (((V_306 h (nI z)) < (V_306 h (fz (F_7_23 h a i2 i3 i4) z0 z s0)) → (cB (mx_i h (a + 7) 0) 10 ∧ True)) ∧ (¬ (V_306 h (nI z)) < (V_306 h (fz (F_7_23 h a i2 i3 i4) z0 z s0)) → True))) ∧ (¬ ((nI z) &&& (i2 ^^^ (-1))) = 0 → True)) ∧ True)) (k : Q (.inl (some (.int (fz (F_7_23 h a i2 i3 i4) z0 n s0)))) h) : H_7_23 (d + 2) h a i2 i3 i4 s0 (nI z0) Q := by
  have L : ∀ (j z : Nat), z0 ≤ z → z + j = n → H_7_23 (d + 2) h a i2 i3 i4 (fz (F_7_23 h a i2 i3 i4) z0 z s0) (nI z) Q := by
    intro j
    induction j with
    | zero =>
      intro z hz0 hzn
      have hzn : z = n := by omega
      subst hzn
      refine tr_7_23 G hVa ⟨fun c9 => absurd (hB ▸ c9) Int32.lt_irrefl, fun c9 => k⟩
    | succ j ih =>
      intro z hz0 hzn
      have hih := ih (z + 1) (by omega) (by omega)
      rw [nI_succ, fz_s hz0] at hih
      have hob := ob z hz0 (by omega)
      refine tr_7_23 G hVa ⟨fun c9 => ?_, fun c9 => absurd (hB.symm ▸ nI_lt (by omega) hn) c9⟩
      obtain ⟨q0, hob⟩ := hob
      refine ⟨q0, ?_⟩
      intro v2 ev2
      subst ev2
      exact hih
  have L0 := L (n - z0) z0 (Nat.le_refl _) (by omega)
  simp only [fz_0] at L0
  exact L0
/-! 73: StoneBacks$Stones.owedBitsOf(I)I -/
def H_73_4 (d : Nat) (h : mxH) (a : Nat) (i1 : Int32) (i2 : Int32) (i3 : Int32) (Q : mxO → mxH → Prop) : Prop := mx_wp d 73 4 [some (.ref (a + 7)), some (.int i1), some (.int i2), some (.int i3)] [] h Q
set_option maxRecDepth 8000 in
theorem tr_73_0 {d : Nat} {h : mxH} {Q : mxO → mxH → Prop} {a : Nat} {i1 : Int32} (G : mxG h) (hVa : (mxT a).1 = 9) (H : H_73_4 d h a i1 0 0 Q) : mx_wp d 73 0 (mx_fr 73 [.ref (a + 7), .int i1]) [] h Q := by
  show mx_wp d 73 0 [some (.ref (a + 7)), some (.int i1), none, none] [] h Q
  refine wp_steps (i' := 4) (ls' := [some (.ref (a + 7)), some (.int i1), some (.int 0), some (.int 0)]) (st' := []) (h' := h) (P := True) 4 rfl rfl trivial ?_
  exact H 
set_option maxRecDepth 8000 in
theorem tr_73_4 {d : Nat} {h : mxH} {Q : mxO → mxH → Prop} {a : Nat} {i1 : Int32} {i2 : Int32} {i3 : Int32} (G : mxG h) (hVa : (mxT a).1 = 9) (H : ((i3 < (mx_i h (a + 7) 0) → (vp_in i3 10 ∧ (∀ (v3 : Int32), v3 = ((if (mx_i h (a + 11) i3.toNatClampNeg) = 2 then i2 else (if (mx_i h (a + 8) i3.toNatClampNeg) = i1 then (i2 ||| ((1 : Int32) <<< (i3 &&& 31))) else i2)) : Int32) → H_73_4 d h a i1 v3 (i3 + 1) Q))) ∧ (¬ i3 < (mx_i h (a + 7) 0) → Q (.inl (some (.int i2))) h))) : H_73_4 d h a i1 i2 i3 Q := by
  show mx_wp d 73 4 [some (.ref (a + 7)), some (.int i1), some (.int i2), some (.int i3)] [] h Q
  refine wp_steps (i' := 7) (ls' := [some (.ref (a + 7)), some (.int i1), some (.int i2), some (.int i3)]) (st' := [.int (mx_i h (a + 7) 0), .int i3]) (h' := h) (P := ((mxT (a + 7)).1 = 7 ∧ mxG h) ∧ True) 3 rfl rfl ⟨⟨(congrArg Prod.fst (sV_7 hVa)), G⟩, trivial⟩ ?_
  refine wp_br (P := True) (c := (mx_i h (a + 7) 0) ≤ i3) (t := 28) (st' := []) rfl rfl trivial (fun c1 => ?_) (fun c1 => ?_)
  · have c1 := Int32.not_lt.mpr c1
    have H := H.2 c1
    refine wp_steps (i' := 29) (ls' := [some (.ref (a + 7)), some (.int i1), some (.int i2), some (.int i3)]) (st' := [.int i2]) (h' := h) (P := True) 1 rfl rfl trivial ?_
    exact wp_end (o := .inl (some (.int i2))) (h' := h) (P := True) rfl rfl trivial H
  · have c1 := Int32.not_le.mp c1
    have H := H.1 c1
    obtain ⟨o2, H⟩ := H
    refine wp_steps (i' := 13) (ls' := [some (.ref (a + 7)), some (.int i1), some (.int i2), some (.int i3)]) (st' := [.int 2, .int (mx_i h (a + 11) i3.toNatClampNeg)]) (h' := h) (P := ((mxT (a + 7)).1 = 7 ∧ mxG h) ∧ (((mxT (a + 11)).1 = 50 ∧ mxG h) ∧ vp_in i3 (mxT (a + 11)).2) ∧ True) 5 rfl rfl ⟨⟨(congrArg Prod.fst (sV_7 hVa)), G⟩, (cA (sV_11 hVa) G o2), trivial⟩ ?_
    have J : ∀ (v3 : Int32) (ev3 : v3 = ((if (mx_i h (a + 11) i3.toNatClampNeg) = 2 then i2 else (if (mx_i h (a + 8) i3.toNatClampNeg) = i1 then (i2 ||| ((1 : Int32) <<< (i3 &&& 31))) else i2)) : Int32)), mx_wp d 73 26 [some (.ref (a + 7)), some (.int i1), some (.int v3), some (.int i3)] [] h Q := by
      intro v3 ev3
      have H := H v3 ev3
      refine wp_steps (i' := 27) (ls' := [some (.ref (a + 7)), some (.int i1), some (.int v3), some (.int (i3 + 1))]) (st' := []) (h' := h) (P := True) 1 rfl rfl trivial ?_
      refine wp_J (j := 4) (st' := []) rfl rfl ?_
      exact H 
    refine wp_br (P := True) (c := (mx_i h (a + 11) i3.toNatClampNeg) = 2) (t := 26) (st' := []) rfl rfl trivial (fun c4 => ?_) (fun c4 => ?_)
    · skip
      exact J _ (by rw [if_pos c4])
    · skip
      refine wp_steps (i' := 19) (ls' := [some (.ref (a + 7)), some (.int i1), some (.int i2), some (.int i3)]) (st' := [.int i1, .int (mx_i h (a + 8) i3.toNatClampNeg)]) (h' := h) (P := ((mxT (a + 7)).1 = 7 ∧ mxG h) ∧ (((mxT (a + 8)).1 = 50 ∧ mxG h) ∧ vp_in i3 (mxT (a + 8)).2) ∧ True) 5 rfl rfl ⟨⟨(congrArg Prod.fst (sV_7 hVa)), G⟩, (cA (sV_8 hVa) G o2), trivial⟩ ?_
      refine wp_br (P := True) (c := ¬ (mx_i h (a + 8) i3.toNatClampNeg) = i1) (t := 26) (st' := []) rfl rfl trivial (fun c5 => ?_) (fun c5 => ?_)
      · skip
        exact J _ (by rw [if_neg c4, if_neg c5])
      · have c5 := Decidable.of_not_not c5
        refine wp_steps (i' := 26) (ls' := [some (.ref (a + 7)), some (.int i1), some (.int (i2 ||| ((1 : Int32) <<< (i3 &&& 31)))), some (.int i3)]) (st' := []) (h' := h) (P := True) 6 rfl rfl trivial ?_
        exact J _ (by rw [if_neg c4, if_pos c5])
def F_73_4 (h : mxH) (a : Nat) (i1 : Int32) (z : Nat) (s : Int32) : Int32 := ((if (mx_i h (a + 11) (nI z).toNatClampNeg) = 2 then s else (if (mx_i h (a + 8) (nI z).toNatClampNeg) = i1 then (s ||| ((1 : Int32) <<< ((nI z) &&& 31))) else s)) : Int32)
theorem lp_73_4 {d : Nat} {h : mxH} {Q : mxO → mxH → Prop} {a : Nat} {i1 : Int32} {s0 : Int32} {n : Nat} (z0 : Nat) (G : mxG h) (hVa : (mxT a).1 = 9) (hB : (mx_i h (a + 7) 0) = nI n) (hn : n < 2147483648) (hz : z0 ≤ n) (ob : ∀ z, z0 ≤ z → z < n → (vp_in (nI z) 10 ∧ True)) (k : Q (.inl (some (.int (fz (F_73_4 h a i1) z0 n s0)))) h) : H_73_4 d h a i1 s0 (nI z0) Q := by
  have L : ∀ (j z : Nat), z0 ≤ z → z + j = n → H_73_4 d h a i1 (fz (F_73_4 h a i1) z0 z s0) (nI z) Q := by
    intro j
    induction j with
    | zero =>
      intro z hz0 hzn
      have hzn : z = n := by omega
      subst hzn
      refine tr_73_4 G hVa ⟨fun c9 => absurd (hB ▸ c9) Int32.lt_irrefl, fun c9 => k⟩
    | succ j ih =>
      intro z hz0 hzn
      have hih := ih (z + 1) (by omega) (by omega)
      rw [nI_succ, fz_s hz0] at hih
      have hob := ob z hz0 (by omega)
      refine tr_73_4 G hVa ⟨fun c9 => ?_, fun c9 => absurd (hB.symm ▸ nI_lt (by omega) hn) c9⟩
      obtain ⟨q0, hob⟩ := hob
      refine ⟨q0, ?_⟩
      intro v3 ev3
      subst ev3
      exact hih
  have L0 := L (n - z0) z0 (Nat.le_refl _) (by omega)
  simp only [fz_0] at L0
  exact L0
def V_73 (h : mxH) (a : Nat) (i1 : Int32) : Int32 := (fo (F_73_4 h a i1) ((mx_i h (a + 7) 0)).toNatClampNeg 0)
theorem sp_73 {d : Nat} {h : mxH} {Q : mxO → mxH → Prop} {a : Nat} {i1 : Int32} (G : mxG h) (hVa : (mxT a).1 = 9) (hcb : cB (mx_i h (a + 7) 0) 10) (k : Q (.inl (some (.int (V_73 h a i1)))) h) : mx_wp d 73 0 (mx_fr 73 [.ref (a + 7), .int i1]) [] h Q := by
  unfold V_73 at k
  obtain ⟨n, hn, hB⟩ := hcb
  rw [hB, nI_clamp (by omega)] at k
  refine tr_73_0 G hVa ?_
  refine lp_73_4 (s0 := 0) 0 G hVa hB (by omega) (Nat.zero_le _) (fun z _ hz => ⟨vp_in_nI (by omega) (by decide), trivial⟩) ?_
  simp only [fz_fo]
  exact k
/-! 8: StoneBacks$Choices.toPay(LStoneBacks$Valley;I)I -/
def H_8_11 (d : Nat) (h : mxH) (a : Nat) (i1 : Int32) (i2 : Int32) (i3 : Int32) (i4 : Int32) (i5 : Int32) (Q : mxO → mxH → Prop) : Prop := ∀ (w6 : Option Value), mx_wp d 8 11 [some (.ref a), some (.int i1), some (.int i2), some (.int i3), some (.int i4), some (.int i5), w6] [] h Q
set_option maxRecDepth 8000 in
theorem tr_8_0 {d : Nat} {h : mxH} {Q : mxO → mxH → Prop} {a : Nat} {i1 : Int32} (G : mxG h) (hVa : (mxT a).1 = 9) (H : (cB (mx_i h (a + 7) 0) 10 ∧ H_8_11 (d + 1) h a i1 (V_73 h a i1) 0 0 0 Q)) : mx_wp (d + 1) 8 0 (mx_fr 8 [.ref a, .int i1]) [] h Q := by
  show mx_wp (d + 1) 8 0 [some (.ref a), some (.int i1), none, none, none, none, none] [] h Q
  refine wp_steps (i' := 3) (ls' := [some (.ref a), some (.int i1), none, none, none, none, none]) (st' := [.int i1, .ref (a + 7)]) (h' := h) (P := ((mxT a).1 = 9 ∧ mxG h) ∧ True) 3 rfl rfl ⟨⟨(congrArg Prod.fst (sV_0 hVa)), G⟩, trivial⟩ ?_
  obtain ⟨o1, H⟩ := H
  refine wp_call (b := false) (y' := 73) (as := [.ref (a + 7), .int i1]) (rest := []) (P := ((mxT (a + 7)).1 = mxRc 73 ∧ mxG h)) rfl (by with_unfolding_all rfl) ⟨(congrArg Prod.fst (sV_7 hVa)), G⟩ (Nat.le_of_ble_eq_true rfl) (sp_73 G hVa o1 ?_)
  show mx_wp (d + 1) 8 4 [some (.ref a), some (.int i1), none, none, none, none, none] [.int (V_73 h a i1)] h Q
  refine wp_steps (i' := 11) (ls' := [some (.ref a), some (.int i1), some (.int (V_73 h a i1)), some (.int 0), some (.int 0), some (.int 0), none]) (st' := []) (h' := h) (P := True) 7 rfl rfl trivial ?_
  exact H _
set_option maxRecDepth 8000 in
theorem tr_8_11 {d : Nat} {h : mxH} {Q : mxO → mxH → Prop} {a : Nat} {i1 : Int32} {i2 : Int32} {i3 : Int32} {i4 : Int32} {i5 : Int32} (G : mxG h) (hVa : (mxT a).1 = 9) (H : ((i2 < i5 → Q (.inl (some (.int i3))) h) ∧ (¬ i2 < i5 → ((((i5 &&& (i2 ^^^ (-1))) = 0 → (cB (mx_i h (a + 7) 0) 10 ∧ True)) ∧ (¬ (i5 &&& (i2 ^^^ (-1))) = 0 → True)) ∧ (∀ (v2 : Int32), v2 = ((if (i5 &&& (i2 ^^^ (-1))) = 0 then (V_76 h a i5) else 0) : Int32) → (((i4 < v2 → (vp_in i1 6 ∧ True)) ∧ (¬ i4 < v2 → True)) ∧ (∀ (v3 : Int32), v3 = ((if i4 < v2 then (if (mx_i h (a + 2) i1.toNatClampNeg) < v2 then i3 else i5) else i3) : Int32) → (∀ (v4 : Int32), v4 = ((if i4 < v2 then (if (mx_i h (a + 2) i1.toNatClampNeg) < v2 then i4 else v2) else i4) : Int32) → H_8_11 (d + 1) h a i1 i2 v3 v4 (i5 + 1) Q)))))))) : H_8_11 (d + 1) h a i1 i2 i3 i4 i5 Q := by
  intro w6
  show mx_wp (d + 1) 8 11 [some (.ref a), some (.int i1), some (.int i2), some (.int i3), some (.int i4), some (.int i5), w6] [] h Q
  refine wp_steps (i' := 13) (ls' := [some (.ref a), some (.int i1), some (.int i2), some (.int i3), some (.int i4), some (.int i5), w6]) (st' := [.int i2, .int i5]) (h' := h) (P := True) 2 rfl rfl trivial ?_
  refine wp_br (P := True) (c := i2 < i5) (t := 43) (st' := []) rfl rfl trivial (fun c1 => ?_) (fun c1 => ?_)
  · skip
    have H := H.1 c1
    refine wp_steps (i' := 44) (ls' := [some (.ref a), some (.int i1), some (.int i2), some (.int i3), some (.int i4), some (.int i5), w6]) (st' := [.int i3]) (h' := h) (P := True) 1 rfl rfl trivial ?_
    exact wp_end (o := .inl (some (.int i3))) (h' := h) (P := True) rfl rfl trivial H
  · skip
    have H := H.2 c1
    refine wp_steps (i' := 19) (ls' := [some (.ref a), some (.int i1), some (.int i2), some (.int i3), some (.int i4), some (.int i5), w6]) (st' := [.int (i5 &&& (i2 ^^^ (-1)))]) (h' := h) (P := True) 5 rfl rfl trivial ?_
    have J : ∀ (v2 : Int32) (ev2 : v2 = ((if (i5 &&& (i2 ^^^ (-1))) = 0 then (V_76 h a i5) else 0) : Int32)), mx_wp (d + 1) 8 26 [some (.ref a), some (.int i1), some (.int i2), some (.int i3), some (.int i4), some (.int i5), w6] [.int v2] h Q := by
      intro v2 ev2
      have H := H.2 v2 ev2
      refine wp_steps (i' := 29) (ls' := [some (.ref a), some (.int i1), some (.int i2), some (.int i3), some (.int i4), some (.int i5), some (.int v2)]) (st' := [.int i4, .int v2]) (h' := h) (P := True) 3 rfl rfl trivial ?_
      have J : ∀ (v3 : Int32) (v4 : Int32) (ev3 : v3 = ((if i4 < v2 then (if (mx_i h (a + 2) i1.toNatClampNeg) < v2 then i3 else i5) else i3) : Int32)) (ev4 : v4 = ((if i4 < v2 then (if (mx_i h (a + 2) i1.toNatClampNeg) < v2 then i4 else v2) else i4) : Int32)), mx_wp (d + 1) 8 41 [some (.ref a), some (.int i1), some (.int i2), some (.int v3), some (.int v4), some (.int i5), some (.int v2)] [] h Q := by
        intro v3 v4 ev3 ev4
        have H := H.2 v3 ev3 v4 ev4
        refine wp_steps (i' := 42) (ls' := [some (.ref a), some (.int i1), some (.int i2), some (.int v3), some (.int v4), some (.int (i5 + 1)), some (.int v2)]) (st' := []) (h' := h) (P := True) 1 rfl rfl trivial ?_
        refine wp_J (j := 11) (st' := []) rfl rfl ?_
        exact H _
      have H := H.1
      refine wp_br (P := True) (c := v2 ≤ i4) (t := 41) (st' := []) rfl rfl trivial (fun c5 => ?_) (fun c5 => ?_)
      · have c5 := Int32.not_lt.mpr c5
        exact J _ _ (by rw [if_neg c5]) (by rw [if_neg c5])
      · have c5 := Int32.not_le.mp c5
        have H := H.1 c5
        obtain ⟨o6, H⟩ := H
        refine wp_steps (i' := 36) (ls' := [some (.ref a), some (.int i1), some (.int i2), some (.int i3), some (.int i4), some (.int i5), some (.int v2)]) (st' := [.int (mx_i h (a + 2) i1.toNatClampNeg), .int v2]) (h' := h) (P := ((mxT a).1 = 9 ∧ mxG h) ∧ ((mxT (a + 1)).1 = 5 ∧ mxG h) ∧ (((mxT (a + 2)).1 = 50 ∧ mxG h) ∧ vp_in i1 (mxT (a + 2)).2) ∧ True) 6 rfl rfl ⟨⟨(congrArg Prod.fst (sV_0 hVa)), G⟩, ⟨(congrArg Prod.fst (sV_1 hVa)), G⟩, (cA (sV_2 hVa) G o6), trivial⟩ ?_
        refine wp_br (P := True) (c := (mx_i h (a + 2) i1.toNatClampNeg) < v2) (t := 41) (st' := []) rfl rfl trivial (fun c7 => ?_) (fun c7 => ?_)
        · skip
          exact J _ _ (by rw [if_pos c5, if_pos c7]) (by rw [if_pos c5, if_pos c7])
        · skip
          refine wp_steps (i' := 41) (ls' := [some (.ref a), some (.int i1), some (.int i2), some (.int i5), some (.int v2), some (.int i5), some (.int v2)]) (st' := []) (h' := h) (P := True) 4 rfl rfl trivial ?_
          exact J _ _ (by rw [if_pos c5, if_neg c7]) (by rw [if_pos c5, if_neg c7])
    have H := H.1
    refine wp_br (P := True) (c := ¬ (i5 &&& (i2 ^^^ (-1))) = 0) (t := 25) (st' := []) rfl rfl trivial (fun c8 => ?_) (fun c8 => ?_)
    · skip
      refine wp_steps (i' := 26) (ls' := [some (.ref a), some (.int i1), some (.int i2), some (.int i3), some (.int i4), some (.int i5), w6]) (st' := [.int 0]) (h' := h) (P := True) 1 rfl rfl trivial ?_
      exact J _ (by rw [if_neg c8])
    · have c8 := Decidable.of_not_not c8
      have H := H.1 c8
      refine wp_steps (i' := 23) (ls' := [some (.ref a), some (.int i1), some (.int i2), some (.int i3), some (.int i4), some (.int i5), w6]) (st' := [.int i5, .ref (a + 7)]) (h' := h) (P := ((mxT a).1 = 9 ∧ mxG h) ∧ True) 3 rfl rfl ⟨⟨(congrArg Prod.fst (sV_0 hVa)), G⟩, trivial⟩ ?_
      obtain ⟨o9, H⟩ := H
      refine wp_call (b := false) (y' := 76) (as := [.ref (a + 7), .int i5]) (rest := []) (P := ((mxT (a + 7)).1 = mxRc 76 ∧ mxG h)) rfl (by with_unfolding_all rfl) ⟨(congrArg Prod.fst (sV_7 hVa)), G⟩ (Nat.le_of_ble_eq_true rfl) (sp_76 G hVa o9 ?_)
      show mx_wp (d + 1) 8 24 [some (.ref a), some (.int i1), some (.int i2), some (.int i3), some (.int i4), some (.int i5), w6] [.int (V_76 h a i5)] h Q
      refine wp_J (j := 26) (st' := [.int (V_76 h a i5)]) rfl rfl ?_
      exact J _ (by rw [if_pos c8])
def F_8_11 (h : mxH) (a : Nat) (i1 : Int32) (i2 : Int32) (z : Nat) (s : (Int32 × Int32)) : (Int32 × Int32) := (((if s.2 < ((if ((nI z) &&& (i2 ^^^ (-1))) = 0 then (V_76 h a (nI z)) else 0) : Int32) then (if (mx_i h (a + 2) i1.toNatClampNeg) < ((if ((nI z) &&& (i2 ^^^ (-1))) = 0 then (V_76 h a (nI z)) else 0) : Int32) then s.1 else (nI z)) else s.1) : Int32), ((if s.2 < ((if ((nI z) &&& (i2 ^^^ (-1))) = 0 then (V_76 h a (nI z)) else 0) : Int32) then (if (mx_i h (a + 2) i1.toNatClampNeg) < ((if ((nI z) &&& (i2 ^^^ (-1))) = 0 then (V_76 h a (nI z)) else 0) : Int32) then s.2 else ((if ((nI z) &&& (i2 ^^^ (-1))) = 0 then (V_76 h a (nI z)) else 0) : Int32)) else s.2) : Int32))
theorem lp_8_11 {d : Nat} {h : mxH} {Q : mxO → mxH → Prop} {a : Nat} {i1 : Int32} {i2 : Int32} {s0 : (Int32 × Int32)} {n : Nat} (z0 : Nat) (G : mxG h) (hVa : (mxT a).1 = 9) (hB : i2 = nI (n - 1)) (hn1 : 1 ≤ n) (hn : n < 2147483648) (hz : z0 ≤ n) (ob : ∀ z, z0 ≤ z → z < n → (((((nI z) &&& (i2 ^^^ (-1))) = 0 → (cB (mx_i h (a + 7) 0) 10 ∧ True)) ∧ (¬ ((nI z) &&& (i2 ^^^ (-1))) = 0 → True)) ∧ ((((fz (F_8_11 h a i1 i2) z0 z s0).2 < ((if ((nI z) &&& (i2 ^^^ (-1))) = 0 then (V_76 h a (nI z)) else 0) : Int32) → (vp_in i1 6 ∧ True)) ∧ (¬ (fz (F_8_11 h a i1 i2) z0 z s0).2 < ((if ((nI z) &&& (i2 ^^^ (-1))) = 0 then (V_76 h a (nI z)) else 0) : Int32) → True)) ∧ True))) (k : Q (.inl (some (.int (fz (F_8_11 h a i1 i2) z0 n s0).1))) h) : H_8_11 (d + 1) h a i1 i2 s0.1 s0.2 (nI z0) Q := by
  have L : ∀ (j z : Nat), z0 ≤ z → z + j = n → H_8_11 (d + 1) h a i1 i2 (fz (F_8_11 h a i1 i2) z0 z s0).1 (fz (F_8_11 h a i1 i2) z0 z s0).2 (nI z) Q := by
    intro j
    induction j with
    | zero =>
      intro z hz0 hzn
      have hzn : z = n := by omega
      subst hzn
      refine tr_8_11 G hVa ⟨fun c9 => k, fun c9 => absurd (hB.symm ▸ nI_lt (by omega) hn) c9⟩
    | succ j ih =>
      intro z hz0 hzn
      have hih := ih (z + 1) (by omega) (by omega)
      rw [nI_succ, fz_s hz0] at hih
      have hob := ob z hz0 (by omega)
      refine tr_8_11 G hVa ⟨fun c9 => absurd (hB ▸ c9) (nI_nlt (by omega) (by omega)), fun c9 => ?_⟩
      obtain ⟨q0, hob⟩ := hob
      refine ⟨q0, ?_⟩
      intro v2 ev2
      subst ev2
      obtain ⟨q0, hob⟩ := hob
      refine ⟨q0, ?_⟩
      intro v3 ev3
      subst ev3
      intro v4 ev4
      subst ev4
      exact hih
  have L0 := L (n - z0) z0 (Nat.le_refl _) (by omega)
  simp only [fz_0] at L0
  exact L0
/-! 11: StoneBacks$Choices.isLikeAnEarlierOne(I)Z -/
def H_11_2 (d : Nat) (h : mxH) (i1 : Int32) (i2 : Int32) (Q : mxO → mxH → Prop) : Prop := mx_wp d 11 2 [some (.ref 109), some (.int i1), some (.int i2)] [] h Q
set_option maxRecDepth 8000 in
theorem tr_11_0 {d : Nat} {h : mxH} {Q : mxO → mxH → Prop} {i1 : Int32} (G : mxG h)  (H : H_11_2 d h i1 0 Q) : mx_wp d 11 0 (mx_fr 11 [.ref 109, .int i1]) [] h Q := by
  show mx_wp d 11 0 [some (.ref 109), some (.int i1), none] [] h Q
  refine wp_steps (i' := 2) (ls' := [some (.ref 109), some (.int i1), some (.int 0)]) (st' := []) (h' := h) (P := True) 2 rfl rfl trivial ?_
  exact H 
set_option maxRecDepth 8000 in
theorem tr_11_2 {d : Nat} {h : mxH} {Q : mxO → mxH → Prop}  {i1 : Int32} {i2 : Int32} (G : mxG h)  (H : ((i2 < i1 → (vp_in i2 6 ∧ vp_in i1 6 ∧ (((mx_i h 111 i2.toNatClampNeg) = (mx_i h 111 i1.toNatClampNeg) → Q (.inl (some (.int 1))) h) ∧ (¬ (mx_i h 111 i2.toNatClampNeg) = (mx_i h 111 i1.toNatClampNeg) → H_11_2 d h i1 (i2 + 1) Q)))) ∧ (¬ i2 < i1 → Q (.inl (some (.int 0))) h))) : H_11_2 d h i1 i2 Q := by
  show mx_wp d 11 2 [some (.ref 109), some (.int i1), some (.int i2)] [] h Q
  refine wp_steps (i' := 4) (ls' := [some (.ref 109), some (.int i1), some (.int i2)]) (st' := [.int i1, .int i2]) (h' := h) (P := True) 2 rfl rfl trivial ?_
  refine wp_br (P := True) (c := i1 ≤ i2) (t := 18) (st' := []) rfl rfl trivial (fun c1 => ?_) (fun c1 => ?_)
  · have c1 := Int32.not_lt.mpr c1
    have H := H.2 c1
    refine wp_steps (i' := 19) (ls' := [some (.ref 109), some (.int i1), some (.int i2)]) (st' := [.int 0]) (h' := h) (P := True) 1 rfl rfl trivial ?_
    exact wp_end (o := .inl (some (.int 0))) (h' := h) (P := ((0 : Int32) = 0 ∨ (0 : Int32) = 1)) rfl rfl (Or.inl rfl) H
  · have c1 := Int32.not_le.mp c1
    have H := H.1 c1
    obtain ⟨o2, o3, H⟩ := H
    refine wp_steps (i' := 13) (ls' := [some (.ref 109), some (.int i1), some (.int i2)]) (st' := [.int (mx_i h 111 i1.toNatClampNeg), .int (mx_i h 111 i2.toNatClampNeg)]) (h' := h) (P := ((mxT 109).1 = 2 ∧ mxG h) ∧ (((mxT 111).1 = 50 ∧ mxG h) ∧ vp_in i2 (mxT 111).2) ∧ ((mxT 109).1 = 2 ∧ mxG h) ∧ (((mxT 111).1 = 50 ∧ mxG h) ∧ vp_in i1 (mxT 111).2) ∧ True) 8 rfl rfl ⟨⟨(congrArg Prod.fst sT_109), G⟩, (cA sT_111 G o2), ⟨(congrArg Prod.fst sT_109), G⟩, (cA sT_111 G o3), trivial⟩ ?_
    refine wp_br (P := True) (c := ¬ (mx_i h 111 i2.toNatClampNeg) = (mx_i h 111 i1.toNatClampNeg)) (t := 16) (st' := []) rfl rfl trivial (fun c4 => ?_) (fun c4 => ?_)
    · skip
      have H := H.2 c4
      refine wp_steps (i' := 17) (ls' := [some (.ref 109), some (.int i1), some (.int (i2 + 1))]) (st' := []) (h' := h) (P := True) 1 rfl rfl trivial ?_
      refine wp_J (j := 2) (st' := []) rfl rfl ?_
      exact H 
    · have c4 := Decidable.of_not_not c4
      have H := H.1 c4
      refine wp_steps (i' := 15) (ls' := [some (.ref 109), some (.int i1), some (.int i2)]) (st' := [.int 1]) (h' := h) (P := True) 1 rfl rfl trivial ?_
      exact wp_end (o := .inl (some (.int 1))) (h' := h) (P := ((1 : Int32) = 0 ∨ (1 : Int32) = 1)) rfl rfl (Or.inr rfl) H
/-! 12: StoneBacks$Choices.leastGreatest()I -/
set_option maxRecDepth 8000 in
theorem tr_12_0 {d : Nat} {h : mxH} {Q : mxO → mxH → Prop}  (G : mxG h)  (H : Q (.inl (some (.int (mx_i h 109 7)))) h) : mx_wp d 12 0 (mx_fr 12 [.ref 109]) [] h Q := by
  show mx_wp d 12 0 [some (.ref 109)] [] h Q
  refine wp_steps (i' := 2) (ls' := [some (.ref 109)]) (st' := [.int (mx_i h 109 7)]) (h' := h) (P := ((mxT 109).1 = 2 ∧ mxG h) ∧ True) 2 rfl rfl ⟨⟨(congrArg Prod.fst sT_109), G⟩, trivial⟩ ?_
  exact wp_end (o := .inl (some (.int (mx_i h 109 7)))) (h' := h) (P := True) rfl rfl trivial H
def V_12 (h : mxH) : Int32 := (mx_i h 109 7)
theorem sp_12 {d : Nat} {h : mxH} {Q : mxO → mxH → Prop}  (G : mxG h)  (k : Q (.inl (some (.int (V_12 h)))) h) : mx_wp d 12 0 (mx_fr 12 [.ref 109]) [] h Q := by
  unfold V_12 at k
  refine tr_12_0 G  ?_
  exact k
/-! 13: StoneBacks$Choices.takerOf(I)I -/
set_option maxRecDepth 8000 in
theorem tr_13_0 {d : Nat} {h : mxH} {Q : mxO → mxH → Prop} {i1 : Int32} (G : mxG h)  (H : ((((mx_i h 109 7) = (-1) → True) ∧ (¬ (mx_i h 109 7) = (-1) → ((i1 < 0 → True) ∧ (¬ i1 < 0 → ((i1 < (mx_i h 109 6) → (vp_in i1 10 ∧ True)) ∧ (¬ i1 < (mx_i h 109 6) → True)))))) ∧ (∀ (v1 : Int32), v1 = ((if (mx_i h 109 7) = (-1) then (-1) else (if i1 < 0 then (-1) else (if i1 < (mx_i h 109 6) then (mx_i h 114 i1.toNatClampNeg) else (-1)))) : Int32) → Q (.inl (some (.int v1))) h))) : mx_wp d 13 0 (mx_fr 13 [.ref 109, .int i1]) [] h Q := by
  show mx_wp d 13 0 [some (.ref 109), some (.int i1)] [] h Q
  refine wp_steps (i' := 3) (ls' := [some (.ref 109), some (.int i1)]) (st' := [.int (-1), .int (mx_i h 109 7)]) (h' := h) (P := ((mxT 109).1 = 2 ∧ mxG h) ∧ True) 3 rfl rfl ⟨⟨(congrArg Prod.fst sT_109), G⟩, trivial⟩ ?_
  have J : ∀ (v1 : Int32) (ev1 : v1 = ((if (mx_i h 109 7) = (-1) then (-1) else (if i1 < 0 then (-1) else (if i1 < (mx_i h 109 6) then (mx_i h 114 i1.toNatClampNeg) else (-1)))) : Int32)), mx_wp d 13 16 [some (.ref 109), some (.int i1)] [.int v1] h Q := by
    intro v1 ev1
    have H := H.2 v1 ev1
    exact wp_end (o := .inl (some (.int v1))) (h' := h) (P := True) rfl rfl trivial H
  have H := H.1
  refine wp_br (P := True) (c := (mx_i h 109 7) = (-1)) (t := 15) (st' := []) rfl rfl trivial (fun c2 => ?_) (fun c2 => ?_)
  · skip
    refine wp_steps (i' := 16) (ls' := [some (.ref 109), some (.int i1)]) (st' := [.int (-1)]) (h' := h) (P := True) 1 rfl rfl trivial ?_
    exact J _ (by rw [if_pos c2])
  · skip
    have H := H.2 c2
    refine wp_steps (i' := 5) (ls' := [some (.ref 109), some (.int i1)]) (st' := [.int i1]) (h' := h) (P := True) 1 rfl rfl trivial ?_
    refine wp_br (P := True) (c := i1 < 0) (t := 15) (st' := []) rfl rfl trivial (fun c3 => ?_) (fun c3 => ?_)
    · skip
      refine wp_steps (i' := 16) (ls' := [some (.ref 109), some (.int i1)]) (st' := [.int (-1)]) (h' := h) (P := True) 1 rfl rfl trivial ?_
      exact J _ (by rw [if_neg c2, if_pos c3])
    · skip
      have H := H.2 c3
      refine wp_steps (i' := 9) (ls' := [some (.ref 109), some (.int i1)]) (st' := [.int (mx_i h 109 6), .int i1]) (h' := h) (P := ((mxT 109).1 = 2 ∧ mxG h) ∧ True) 3 rfl rfl ⟨⟨(congrArg Prod.fst sT_109), G⟩, trivial⟩ ?_
      refine wp_br (P := True) (c := (mx_i h 109 6) ≤ i1) (t := 15) (st' := []) rfl rfl trivial (fun c4 => ?_) (fun c4 => ?_)
      · have c4 := Int32.not_lt.mpr c4
        refine wp_steps (i' := 16) (ls' := [some (.ref 109), some (.int i1)]) (st' := [.int (-1)]) (h' := h) (P := True) 1 rfl rfl trivial ?_
        exact J _ (by rw [if_neg c2, if_neg c3, if_neg c4])
      · have c4 := Int32.not_le.mp c4
        have H := H.1 c4
        obtain ⟨o5, H⟩ := H
        refine wp_steps (i' := 14) (ls' := [some (.ref 109), some (.int i1)]) (st' := [.int (mx_i h 114 i1.toNatClampNeg)]) (h' := h) (P := ((mxT 109).1 = 2 ∧ mxG h) ∧ (((mxT 114).1 = 50 ∧ mxG h) ∧ vp_in i1 (mxT 114).2) ∧ True) 4 rfl rfl ⟨⟨(congrArg Prod.fst sT_109), G⟩, (cA sT_114 G o5), trivial⟩ ?_
        refine wp_J (j := 16) (st' := [.int (mx_i h 114 i1.toNatClampNeg)]) rfl rfl ?_
        exact J _ (by rw [if_neg c2, if_neg c3, if_pos c4])
def V_13 (h : mxH) (i1 : Int32) : Int32 := ((if (mx_i h 109 7) = (-1) then (-1) else (if i1 < 0 then (-1) else (if i1 < (mx_i h 109 6) then (mx_i h 114 i1.toNatClampNeg) else (-1)))) : Int32)
theorem sp_13 {d : Nat} {h : mxH} {Q : mxO → mxH → Prop} {i1 : Int32} (G : mxG h)  (x0 : (((mx_i h 109 7) = (-1) → True) ∧ (¬ (mx_i h 109 7) = (-1) → ((i1 < 0 → True) ∧ (¬ i1 < 0 → ((i1 < (mx_i h 109 6) → (vp_in i1 10 ∧ True)) ∧ (¬ i1 < (mx_i h 109 6) → True))))))) (k : Q (.inl (some (.int (V_13 h i1)))) h) : mx_wp d 13 0 (mx_fr 13 [.ref 109, .int i1]) [] h Q := by
  unfold V_13 at k
  have hob : ((((mx_i h 109 7) = (-1) → True) ∧ (¬ (mx_i h 109 7) = (-1) → ((i1 < 0 → True) ∧ (¬ i1 < 0 → ((i1 < (mx_i h 109 6) → (vp_in i1 10 ∧ True)) ∧ (¬ i1 < (mx_i h 109 6) → True)))))) ∧ True) := ⟨x0, trivial⟩
  refine tr_13_0 G  ?_
  obtain ⟨q0, hob⟩ := hob
  refine ⟨q0, ?_⟩
  intro v1 ev1
  subst ev1
  exact k
/-! 305: java/lang/Integer.numberOfTrailingZeros(I)I -/
set_option maxRecDepth 8000 in
theorem tr_305_0 {d : Nat} {h : mxH} {Q : mxO → mxH → Prop} {i0 : Int32} (G : mxG h)  (H : ((0 < ((i0 ^^^ (-1)) &&& (i0 - 1)) → (∀ (v2 : Int32), v2 = ((if 65536 < ((i0 ^^^ (-1)) &&& (i0 - 1)) then (((i0 ^^^ (-1)) &&& (i0 - 1)).toUInt32 >>> ((16 : Int32).toUInt32 &&& Int32.toUInt32 31)).toInt32 else ((i0 ^^^ (-1)) &&& (i0 - 1))) : Int32) → (∀ (v3 : Int32), v3 = ((if 65536 < ((i0 ^^^ (-1)) &&& (i0 - 1)) then (1 + 16) else 1) : Int32) → (∀ (v4 : Int32), v4 = ((if 256 < v2 then (v2.toUInt32 >>> ((8 : Int32).toUInt32 &&& Int32.toUInt32 31)).toInt32 else v2) : Int32) → (∀ (v5 : Int32), v5 = ((if 256 < v2 then (v3 + 8) else v3) : Int32) → (∀ (v6 : Int32), v6 = ((if 16 < v4 then (v4.toUInt32 >>> ((4 : Int32).toUInt32 &&& Int32.toUInt32 31)).toInt32 else v4) : Int32) → (∀ (v7 : Int32), v7 = ((if 16 < v4 then (v5 + 4) else v5) : Int32) → (∀ (v8 : Int32), v8 = ((if 4 < v6 then (v6.toUInt32 >>> ((2 : Int32).toUInt32 &&& Int32.toUInt32 31)).toInt32 else v6) : Int32) → (∀ (v9 : Int32), v9 = ((if 4 < v6 then (v7 + 2) else v7) : Int32) → Q (.inl (some (.int (v9 + (v8.toUInt32 >>> ((1 : Int32).toUInt32 &&& Int32.toUInt32 31)).toInt32)))) h))))))))) ∧ (¬ 0 < ((i0 ^^^ (-1)) &&& (i0 - 1)) → Q (.inl (some (.int (((i0 ^^^ (-1)) &&& (i0 - 1)) &&& 32)))) h))) : mx_wp d 305 0 (mx_fr 305 [.int i0]) [] h Q := by
  show mx_wp d 305 0 [some (.int i0), none] [] h Q
  refine wp_steps (i' := 9) (ls' := [some (.int ((i0 ^^^ (-1)) &&& (i0 - 1))), none]) (st' := [.int ((i0 ^^^ (-1)) &&& (i0 - 1))]) (h' := h) (P := True) 9 rfl rfl trivial ?_
  refine wp_br (P := True) (c := 0 < ((i0 ^^^ (-1)) &&& (i0 - 1))) (t := 14) (st' := []) rfl rfl trivial (fun c1 => ?_) (fun c1 => ?_)
  · skip
    have H := H.1 c1
    refine wp_steps (i' := 18) (ls' := [some (.int ((i0 ^^^ (-1)) &&& (i0 - 1))), some (.int 1)]) (st' := [.int 65536, .int ((i0 ^^^ (-1)) &&& (i0 - 1))]) (h' := h) (P := True) 4 rfl rfl trivial ?_
    have J : ∀ (v2 : Int32) (v3 : Int32) (ev2 : v2 = ((if 65536 < ((i0 ^^^ (-1)) &&& (i0 - 1)) then (((i0 ^^^ (-1)) &&& (i0 - 1)).toUInt32 >>> ((16 : Int32).toUInt32 &&& Int32.toUInt32 31)).toInt32 else ((i0 ^^^ (-1)) &&& (i0 - 1))) : Int32)) (ev3 : v3 = ((if 65536 < ((i0 ^^^ (-1)) &&& (i0 - 1)) then (1 + 16) else 1) : Int32)), mx_wp d 305 24 [some (.int v2), some (.int v3)] [] h Q := by
      intro v2 v3 ev2 ev3
      have H := H v2 ev2 v3 ev3
      refine wp_steps (i' := 26) (ls' := [some (.int v2), some (.int v3)]) (st' := [.int 256, .int v2]) (h' := h) (P := True) 2 rfl rfl trivial ?_
      have J : ∀ (v4 : Int32) (v5 : Int32) (ev4 : v4 = ((if 256 < v2 then (v2.toUInt32 >>> ((8 : Int32).toUInt32 &&& Int32.toUInt32 31)).toInt32 else v2) : Int32)) (ev5 : v5 = ((if 256 < v2 then (v3 + 8) else v3) : Int32)), mx_wp d 305 32 [some (.int v4), some (.int v5)] [] h Q := by
        intro v4 v5 ev4 ev5
        have H := H v4 ev4 v5 ev5
        refine wp_steps (i' := 34) (ls' := [some (.int v4), some (.int v5)]) (st' := [.int 16, .int v4]) (h' := h) (P := True) 2 rfl rfl trivial ?_
        have J : ∀ (v6 : Int32) (v7 : Int32) (ev6 : v6 = ((if 16 < v4 then (v4.toUInt32 >>> ((4 : Int32).toUInt32 &&& Int32.toUInt32 31)).toInt32 else v4) : Int32)) (ev7 : v7 = ((if 16 < v4 then (v5 + 4) else v5) : Int32)), mx_wp d 305 40 [some (.int v6), some (.int v7)] [] h Q := by
          intro v6 v7 ev6 ev7
          have H := H v6 ev6 v7 ev7
          refine wp_steps (i' := 42) (ls' := [some (.int v6), some (.int v7)]) (st' := [.int 4, .int v6]) (h' := h) (P := True) 2 rfl rfl trivial ?_
          have J : ∀ (v8 : Int32) (v9 : Int32) (ev8 : v8 = ((if 4 < v6 then (v6.toUInt32 >>> ((2 : Int32).toUInt32 &&& Int32.toUInt32 31)).toInt32 else v6) : Int32)) (ev9 : v9 = ((if 4 < v6 then (v7 + 2) else v7) : Int32)), mx_wp d 305 48 [some (.int v8), some (.int v9)] [] h Q := by
            intro v8 v9 ev8 ev9
            have H := H v8 ev8 v9 ev9
            refine wp_steps (i' := 53) (ls' := [some (.int v8), some (.int v9)]) (st' := [.int (v9 + (v8.toUInt32 >>> ((1 : Int32).toUInt32 &&& Int32.toUInt32 31)).toInt32)]) (h' := h) (P := True) 5 rfl rfl trivial ?_
            exact wp_end (o := .inl (some (.int (v9 + (v8.toUInt32 >>> ((1 : Int32).toUInt32 &&& Int32.toUInt32 31)).toInt32)))) (h' := h) (P := True) rfl rfl trivial H
          refine wp_br (P := True) (c := v6 ≤ 4) (t := 48) (st' := []) rfl rfl trivial (fun c10 => ?_) (fun c10 => ?_)
          · have c10 := Int32.not_lt.mpr c10
            exact J _ _ (by rw [if_neg c10]) (by rw [if_neg c10])
          · have c10 := Int32.not_le.mp c10
            refine wp_steps (i' := 48) (ls' := [some (.int (v6.toUInt32 >>> ((2 : Int32).toUInt32 &&& Int32.toUInt32 31)).toInt32), some (.int (v7 + 2))]) (st' := []) (h' := h) (P := True) 5 rfl rfl trivial ?_
            exact J _ _ (by rw [if_pos c10]) (by rw [if_pos c10])
        refine wp_br (P := True) (c := v4 ≤ 16) (t := 40) (st' := []) rfl rfl trivial (fun c11 => ?_) (fun c11 => ?_)
        · have c11 := Int32.not_lt.mpr c11
          exact J _ _ (by rw [if_neg c11]) (by rw [if_neg c11])
        · have c11 := Int32.not_le.mp c11
          refine wp_steps (i' := 40) (ls' := [some (.int (v4.toUInt32 >>> ((4 : Int32).toUInt32 &&& Int32.toUInt32 31)).toInt32), some (.int (v5 + 4))]) (st' := []) (h' := h) (P := True) 5 rfl rfl trivial ?_
          exact J _ _ (by rw [if_pos c11]) (by rw [if_pos c11])
      refine wp_br (P := True) (c := v2 ≤ 256) (t := 32) (st' := []) rfl rfl trivial (fun c12 => ?_) (fun c12 => ?_)
      · have c12 := Int32.not_lt.mpr c12
        exact J _ _ (by rw [if_neg c12]) (by rw [if_neg c12])
      · have c12 := Int32.not_le.mp c12
        refine wp_steps (i' := 32) (ls' := [some (.int (v2.toUInt32 >>> ((8 : Int32).toUInt32 &&& Int32.toUInt32 31)).toInt32), some (.int (v3 + 8))]) (st' := []) (h' := h) (P := True) 5 rfl rfl trivial ?_
        exact J _ _ (by rw [if_pos c12]) (by rw [if_pos c12])
    refine wp_br (P := True) (c := ((i0 ^^^ (-1)) &&& (i0 - 1)) ≤ 65536) (t := 24) (st' := []) rfl rfl trivial (fun c13 => ?_) (fun c13 => ?_)
    · have c13 := Int32.not_lt.mpr c13
      exact J _ _ (by rw [if_neg c13]) (by rw [if_neg c13])
    · have c13 := Int32.not_le.mp c13
      refine wp_steps (i' := 24) (ls' := [some (.int (((i0 ^^^ (-1)) &&& (i0 - 1)).toUInt32 >>> ((16 : Int32).toUInt32 &&& Int32.toUInt32 31)).toInt32), some (.int (1 + 16))]) (st' := []) (h' := h) (P := True) 5 rfl rfl trivial ?_
      exact J _ _ (by rw [if_pos c13]) (by rw [if_pos c13])
  · skip
    have H := H.2 c1
    refine wp_steps (i' := 13) (ls' := [some (.int ((i0 ^^^ (-1)) &&& (i0 - 1))), none]) (st' := [.int (((i0 ^^^ (-1)) &&& (i0 - 1)) &&& 32)]) (h' := h) (P := True) 3 rfl rfl trivial ?_
    exact wp_end (o := .inl (some (.int (((i0 ^^^ (-1)) &&& (i0 - 1)) &&& 32)))) (h' := h) (P := True) rfl rfl trivial H
def V_305 (h : mxH) (i0 : Int32) : Int32 := (if 0 < ((i0 ^^^ (-1)) &&& (i0 - 1)) then (((if 4 < ((if 16 < ((if 256 < ((if 65536 < ((i0 ^^^ (-1)) &&& (i0 - 1)) then (((i0 ^^^ (-1)) &&& (i0 - 1)).toUInt32 >>> ((16 : Int32).toUInt32 &&& Int32.toUInt32 31)).toInt32 else ((i0 ^^^ (-1)) &&& (i0 - 1))) : Int32) then (((if 65536 < ((i0 ^^^ (-1)) &&& (i0 - 1)) then (((i0 ^^^ (-1)) &&& (i0 - 1)).toUInt32 >>> ((16 : Int32).toUInt32 &&& Int32.toUInt32 31)).toInt32 else ((i0 ^^^ (-1)) &&& (i0 - 1))) : Int32).toUInt32 >>> ((8 : Int32).toUInt32 &&& Int32.toUInt32 31)).toInt32 else ((if 65536 < ((i0 ^^^ (-1)) &&& (i0 - 1)) then (((i0 ^^^ (-1)) &&& (i0 - 1)).toUInt32 >>> ((16 : Int32).toUInt32 &&& Int32.toUInt32 31)).toInt32 else ((i0 ^^^ (-1)) &&& (i0 - 1))) : Int32)) : Int32) then (((if 256 < ((if 65536 < ((i0 ^^^ (-1)) &&& (i0 - 1)) then (((i0 ^^^ (-1)) &&& (i0 - 1)).toUInt32 >>> ((16 : Int32).toUInt32 &&& Int32.toUInt32 31)).toInt32 else ((i0 ^^^ (-1)) &&& (i0 - 1))) : Int32) then (((if 65536 < ((i0 ^^^ (-1)) &&& (i0 - 1)) then (((i0 ^^^ (-1)) &&& (i0 - 1)).toUInt32 >>> ((16 : Int32).toUInt32 &&& Int32.toUInt32 31)).toInt32 else ((i0 ^^^ (-1)) &&& (i0 - 1))) : Int32).toUInt32 >>> ((8 : Int32).toUInt32 &&& Int32.toUInt32 31)).toInt32 else ((if 65536 < ((i0 ^^^ (-1)) &&& (i0 - 1)) then (((i0 ^^^ (-1)) &&& (i0 - 1)).toUInt32 >>> ((16 : Int32).toUInt32 &&& Int32.toUInt32 31)).toInt32 else ((i0 ^^^ (-1)) &&& (i0 - 1))) : Int32)) : Int32).toUInt32 >>> ((4 : Int32).toUInt32 &&& Int32.toUInt32 31)).toInt32 else ((if 256 < ((if 65536 < ((i0 ^^^ (-1)) &&& (i0 - 1)) then (((i0 ^^^ (-1)) &&& (i0 - 1)).toUInt32 >>> ((16 : Int32).toUInt32 &&& Int32.toUInt32 31)).toInt32 else ((i0 ^^^ (-1)) &&& (i0 - 1))) : Int32) then (((if 65536 < ((i0 ^^^ (-1)) &&& (i0 - 1)) then (((i0 ^^^ (-1)) &&& (i0 - 1)).toUInt32 >>> ((16 : Int32).toUInt32 &&& Int32.toUInt32 31)).toInt32 else ((i0 ^^^ (-1)) &&& (i0 - 1))) : Int32).toUInt32 >>> ((8 : Int32).toUInt32 &&& Int32.toUInt32 31)).toInt32 else ((if 65536 < ((i0 ^^^ (-1)) &&& (i0 - 1)) then (((i0 ^^^ (-1)) &&& (i0 - 1)).toUInt32 >>> ((16 : Int32).toUInt32 &&& Int32.toUInt32 31)).toInt32 else ((i0 ^^^ (-1)) &&& (i0 - 1))) : Int32)) : Int32)) : Int32) then (((if 16 < ((if 256 < ((if 65536 < ((i0 ^^^ (-1)) &&& (i0 - 1)) then (((i0 ^^^ (-1)) &&& (i0 - 1)).toUInt32 >>> ((16 : Int32).toUInt32 &&& Int32.toUInt32 31)).toInt32 else ((i0 ^^^ (-1)) &&& (i0 - 1))) : Int32) then (((if 65536 < ((i0 ^^^ (-1)) &&& (i0 - 1)) then (((i0 ^^^ (-1)) &&& (i0 - 1)).toUInt32 >>> ((16 : Int32).toUInt32 &&& Int32.toUInt32 31)).toInt32 else ((i0 ^^^ (-1)) &&& (i0 - 1))) : Int32).toUInt32 >>> ((8 : Int32).toUInt32 &&& Int32.toUInt32 31)).toInt32 else ((if 65536 < ((i0 ^^^ (-1)) &&& (i0 - 1)) then (((i0 ^^^ (-1)) &&& (i0 - 1)).toUInt32 >>> ((16 : Int32).toUInt32 &&& Int32.toUInt32 31)).toInt32 else ((i0 ^^^ (-1)) &&& (i0 - 1))) : Int32)) : Int32) then (((if 256 < ((if 65536 < ((i0 ^^^ (-1)) &&& (i0 - 1)) then (((i0 ^^^ (-1)) &&& (i0 - 1)).toUInt32 >>> ((16 : Int32).toUInt32 &&& Int32.toUInt32 31)).toInt32 else ((i0 ^^^ (-1)) &&& (i0 - 1))) : Int32) then (((if 65536 < ((i0 ^^^ (-1)) &&& (i0 - 1)) then (1 + 16) else 1) : Int32) + 8) else ((if 65536 < ((i0 ^^^ (-1)) &&& (i0 - 1)) then (1 + 16) else 1) : Int32)) : Int32) + 4) else ((if 256 < ((if 65536 < ((i0 ^^^ (-1)) &&& (i0 - 1)) then (((i0 ^^^ (-1)) &&& (i0 - 1)).toUInt32 >>> ((16 : Int32).toUInt32 &&& Int32.toUInt32 31)).toInt32 else ((i0 ^^^ (-1)) &&& (i0 - 1))) : Int32) then (((if 65536 < ((i0 ^^^ (-1)) &&& (i0 - 1)) then (1 + 16) else 1) : Int32) + 8) else ((if 65536 < ((i0 ^^^ (-1)) &&& (i0 - 1)) then (1 + 16) else 1) : Int32)) : Int32)) : Int32) + 2) else ((if 16 < ((if 256 < ((if 65536 < ((i0 ^^^ (-1)) &&& (i0 - 1)) then (((i0 ^^^ (-1)) &&& (i0 - 1)).toUInt32 >>> ((16 : Int32).toUInt32 &&& Int32.toUInt32 31)).toInt32 else ((i0 ^^^ (-1)) &&& (i0 - 1))) : Int32) then (((if 65536 < ((i0 ^^^ (-1)) &&& (i0 - 1)) then (((i0 ^^^ (-1)) &&& (i0 - 1)).toUInt32 >>> ((16 : Int32).toUInt32 &&& Int32.toUInt32 31)).toInt32 else ((i0 ^^^ (-1)) &&& (i0 - 1))) : Int32).toUInt32 >>> ((8 : Int32).toUInt32 &&& Int32.toUInt32 31)).toInt32 else ((if 65536 < ((i0 ^^^ (-1)) &&& (i0 - 1)) then (((i0 ^^^ (-1)) &&& (i0 - 1)).toUInt32 >>> ((16 : Int32).toUInt32 &&& Int32.toUInt32 31)).toInt32 else ((i0 ^^^ (-1)) &&& (i0 - 1))) : Int32)) : Int32) then (((if 256 < ((if 65536 < ((i0 ^^^ (-1)) &&& (i0 - 1)) then (((i0 ^^^ (-1)) &&& (i0 - 1)).toUInt32 >>> ((16 : Int32).toUInt32 &&& Int32.toUInt32 31)).toInt32 else ((i0 ^^^ (-1)) &&& (i0 - 1))) : Int32) then (((if 65536 < ((i0 ^^^ (-1)) &&& (i0 - 1)) then (1 + 16) else 1) : Int32) + 8) else ((if 65536 < ((i0 ^^^ (-1)) &&& (i0 - 1)) then (1 + 16) else 1) : Int32)) : Int32) + 4) else ((if 256 < ((if 65536 < ((i0 ^^^ (-1)) &&& (i0 - 1)) then (((i0 ^^^ (-1)) &&& (i0 - 1)).toUInt32 >>> ((16 : Int32).toUInt32 &&& Int32.toUInt32 31)).toInt32 else ((i0 ^^^ (-1)) &&& (i0 - 1))) : Int32) then (((if 65536 < ((i0 ^^^ (-1)) &&& (i0 - 1)) then (1 + 16) else 1) : Int32) + 8) else ((if 65536 < ((i0 ^^^ (-1)) &&& (i0 - 1)) then (1 + 16) else 1) : Int32)) : Int32)) : Int32)) : Int32) + (((if 4 < ((if 16 < ((if 256 < ((if 65536 < ((i0 ^^^ (-1)) &&& (i0 - 1)) then (((i0 ^^^ (-1)) &&& (i0 - 1)).toUInt32 >>> ((16 : Int32).toUInt32 &&& Int32.toUInt32 31)).toInt32 else ((i0 ^^^ (-1)) &&& (i0 - 1))) : Int32) then (((if 65536 < ((i0 ^^^ (-1)) &&& (i0 - 1)) then (((i0 ^^^ (-1)) &&& (i0 - 1)).toUInt32 >>> ((16 : Int32).toUInt32 &&& Int32.toUInt32 31)).toInt32 else ((i0 ^^^ (-1)) &&& (i0 - 1))) : Int32).toUInt32 >>> ((8 : Int32).toUInt32 &&& Int32.toUInt32 31)).toInt32 else ((if 65536 < ((i0 ^^^ (-1)) &&& (i0 - 1)) then (((i0 ^^^ (-1)) &&& (i0 - 1)).toUInt32 >>> ((16 : Int32).toUInt32 &&& Int32.toUInt32 31)).toInt32 else ((i0 ^^^ (-1)) &&& (i0 - 1))) : Int32)) : Int32) then (((if 256 < ((if 65536 < ((i0 ^^^ (-1)) &&& (i0 - 1)) then (((i0 ^^^ (-1)) &&& (i0 - 1)).toUInt32 >>> ((16 : Int32).toUInt32 &&& Int32.toUInt32 31)).toInt32 else ((i0 ^^^ (-1)) &&& (i0 - 1))) : Int32) then (((if 65536 < ((i0 ^^^ (-1)) &&& (i0 - 1)) then (((i0 ^^^ (-1)) &&& (i0 - 1)).toUInt32 >>> ((16 : Int32).toUInt32 &&& Int32.toUInt32 31)).toInt32 else ((i0 ^^^ (-1)) &&& (i0 - 1))) : Int32).toUInt32 >>> ((8 : Int32).toUInt32 &&& Int32.toUInt32 31)).toInt32 else ((if 65536 < ((i0 ^^^ (-1)) &&& (i0 - 1)) then (((i0 ^^^ (-1)) &&& (i0 - 1)).toUInt32 >>> ((16 : Int32).toUInt32 &&& Int32.toUInt32 31)).toInt32 else ((i0 ^^^ (-1)) &&& (i0 - 1))) : Int32)) : Int32).toUInt32 >>> ((4 : Int32).toUInt32 &&& Int32.toUInt32 31)).toInt32 else ((if 256 < ((if 65536 < ((i0 ^^^ (-1)) &&& (i0 - 1)) then (((i0 ^^^ (-1)) &&& (i0 - 1)).toUInt32 >>> ((16 : Int32).toUInt32 &&& Int32.toUInt32 31)).toInt32 else ((i0 ^^^ (-1)) &&& (i0 - 1))) : Int32) then (((if 65536 < ((i0 ^^^ (-1)) &&& (i0 - 1)) then (((i0 ^^^ (-1)) &&& (i0 - 1)).toUInt32 >>> ((16 : Int32).toUInt32 &&& Int32.toUInt32 31)).toInt32 else ((i0 ^^^ (-1)) &&& (i0 - 1))) : Int32).toUInt32 >>> ((8 : Int32).toUInt32 &&& Int32.toUInt32 31)).toInt32 else ((if 65536 < ((i0 ^^^ (-1)) &&& (i0 - 1)) then (((i0 ^^^ (-1)) &&& (i0 - 1)).toUInt32 >>> ((16 : Int32).toUInt32 &&& Int32.toUInt32 31)).toInt32 else ((i0 ^^^ (-1)) &&& (i0 - 1))) : Int32)) : Int32)) : Int32) then (((if 16 < ((if 256 < ((if 65536 < ((i0 ^^^ (-1)) &&& (i0 - 1)) then (((i0 ^^^ (-1)) &&& (i0 - 1)).toUInt32 >>> ((16 : Int32).toUInt32 &&& Int32.toUInt32 31)).toInt32 else ((i0 ^^^ (-1)) &&& (i0 - 1))) : Int32) then (((if 65536 < ((i0 ^^^ (-1)) &&& (i0 - 1)) then (((i0 ^^^ (-1)) &&& (i0 - 1)).toUInt32 >>> ((16 : Int32).toUInt32 &&& Int32.toUInt32 31)).toInt32 else ((i0 ^^^ (-1)) &&& (i0 - 1))) : Int32).toUInt32 >>> ((8 : Int32).toUInt32 &&& Int32.toUInt32 31)).toInt32 else ((if 65536 < ((i0 ^^^ (-1)) &&& (i0 - 1)) then (((i0 ^^^ (-1)) &&& (i0 - 1)).toUInt32 >>> ((16 : Int32).toUInt32 &&& Int32.toUInt32 31)).toInt32 else ((i0 ^^^ (-1)) &&& (i0 - 1))) : Int32)) : Int32) then (((if 256 < ((if 65536 < ((i0 ^^^ (-1)) &&& (i0 - 1)) then (((i0 ^^^ (-1)) &&& (i0 - 1)).toUInt32 >>> ((16 : Int32).toUInt32 &&& Int32.toUInt32 31)).toInt32 else ((i0 ^^^ (-1)) &&& (i0 - 1))) : Int32) then (((if 65536 < ((i0 ^^^ (-1)) &&& (i0 - 1)) then (((i0 ^^^ (-1)) &&& (i0 - 1)).toUInt32 >>> ((16 : Int32).toUInt32 &&& Int32.toUInt32 31)).toInt32 else ((i0 ^^^ (-1)) &&& (i0 - 1))) : Int32).toUInt32 >>> ((8 : Int32).toUInt32 &&& Int32.toUInt32 31)).toInt32 else ((if 65536 < ((i0 ^^^ (-1)) &&& (i0 - 1)) then (((i0 ^^^ (-1)) &&& (i0 - 1)).toUInt32 >>> ((16 : Int32).toUInt32 &&& Int32.toUInt32 31)).toInt32 else ((i0 ^^^ (-1)) &&& (i0 - 1))) : Int32)) : Int32).toUInt32 >>> ((4 : Int32).toUInt32 &&& Int32.toUInt32 31)).toInt32 else ((if 256 < ((if 65536 < ((i0 ^^^ (-1)) &&& (i0 - 1)) then (((i0 ^^^ (-1)) &&& (i0 - 1)).toUInt32 >>> ((16 : Int32).toUInt32 &&& Int32.toUInt32 31)).toInt32 else ((i0 ^^^ (-1)) &&& (i0 - 1))) : Int32) then (((if 65536 < ((i0 ^^^ (-1)) &&& (i0 - 1)) then (((i0 ^^^ (-1)) &&& (i0 - 1)).toUInt32 >>> ((16 : Int32).toUInt32 &&& Int32.toUInt32 31)).toInt32 else ((i0 ^^^ (-1)) &&& (i0 - 1))) : Int32).toUInt32 >>> ((8 : Int32).toUInt32 &&& Int32.toUInt32 31)).toInt32 else ((if 65536 < ((i0 ^^^ (-1)) &&& (i0 - 1)) then (((i0 ^^^ (-1)) &&& (i0 - 1)).toUInt32 >>> ((16 : Int32).toUInt32 &&& Int32.toUInt32 31)).toInt32 else ((i0 ^^^ (-1)) &&& (i0 - 1))) : Int32)) : Int32)) : Int32).toUInt32 >>> ((2 : Int32).toUInt32 &&& Int32.toUInt32 31)).toInt32 else ((if 16 < ((if 256 < ((if 65536 < ((i0 ^^^ (-1)) &&& (i0 - 1)) then (((i0 ^^^ (-1)) &&& (i0 - 1)).toUInt32 >>> ((16 : Int32).toUInt32 &&& Int32.toUInt32 31)).toInt32 else ((i0 ^^^ (-1)) &&& (i0 - 1))) : Int32) then (((if 65536 < ((i0 ^^^ (-1)) &&& (i0 - 1)) then (((i0 ^^^ (-1)) &&& (i0 - 1)).toUInt32 >>> ((16 : Int32).toUInt32 &&& Int32.toUInt32 31)).toInt32 else ((i0 ^^^ (-1)) &&& (i0 - 1))) : Int32).toUInt32 >>> ((8 : Int32).toUInt32 &&& Int32.toUInt32 31)).toInt32 else ((if 65536 < ((i0 ^^^ (-1)) &&& (i0 - 1)) then (((i0 ^^^ (-1)) &&& (i0 - 1)).toUInt32 >>> ((16 : Int32).toUInt32 &&& Int32.toUInt32 31)).toInt32 else ((i0 ^^^ (-1)) &&& (i0 - 1))) : Int32)) : Int32) then (((if 256 < ((if 65536 < ((i0 ^^^ (-1)) &&& (i0 - 1)) then (((i0 ^^^ (-1)) &&& (i0 - 1)).toUInt32 >>> ((16 : Int32).toUInt32 &&& Int32.toUInt32 31)).toInt32 else ((i0 ^^^ (-1)) &&& (i0 - 1))) : Int32) then (((if 65536 < ((i0 ^^^ (-1)) &&& (i0 - 1)) then (((i0 ^^^ (-1)) &&& (i0 - 1)).toUInt32 >>> ((16 : Int32).toUInt32 &&& Int32.toUInt32 31)).toInt32 else ((i0 ^^^ (-1)) &&& (i0 - 1))) : Int32).toUInt32 >>> ((8 : Int32).toUInt32 &&& Int32.toUInt32 31)).toInt32 else ((if 65536 < ((i0 ^^^ (-1)) &&& (i0 - 1)) then (((i0 ^^^ (-1)) &&& (i0 - 1)).toUInt32 >>> ((16 : Int32).toUInt32 &&& Int32.toUInt32 31)).toInt32 else ((i0 ^^^ (-1)) &&& (i0 - 1))) : Int32)) : Int32).toUInt32 >>> ((4 : Int32).toUInt32 &&& Int32.toUInt32 31)).toInt32 else ((if 256 < ((if 65536 < ((i0 ^^^ (-1)) &&& (i0 - 1)) then (((i0 ^^^ (-1)) &&& (i0 - 1)).toUInt32 >>> ((16 : Int32).toUInt32 &&& Int32.toUInt32 31)).toInt32 else ((i0 ^^^ (-1)) &&& (i0 - 1))) : Int32) then (((if 65536 < ((i0 ^^^ (-1)) &&& (i0 - 1)) then (((i0 ^^^ (-1)) &&& (i0 - 1)).toUInt32 >>> ((16 : Int32).toUInt32 &&& Int32.toUInt32 31)).toInt32 else ((i0 ^^^ (-1)) &&& (i0 - 1))) : Int32).toUInt32 >>> ((8 : Int32).toUInt32 &&& Int32.toUInt32 31)).toInt32 else ((if 65536 < ((i0 ^^^ (-1)) &&& (i0 - 1)) then (((i0 ^^^ (-1)) &&& (i0 - 1)).toUInt32 >>> ((16 : Int32).toUInt32 &&& Int32.toUInt32 31)).toInt32 else ((i0 ^^^ (-1)) &&& (i0 - 1))) : Int32)) : Int32)) : Int32)) : Int32).toUInt32 >>> ((1 : Int32).toUInt32 &&& Int32.toUInt32 31)).toInt32) else (((i0 ^^^ (-1)) &&& (i0 - 1)) &&& 32))
theorem sp_305 {d : Nat} {h : mxH} {Q : mxO → mxH → Prop} {i0 : Int32} (G : mxG h)  (k : Q (.inl (some (.int (V_305 h i0)))) h) : mx_wp d 305 0 (mx_fr 305 [.int i0]) [] h Q := by
  unfold V_305 at k
  refine tr_305_0 G  ?_
  refine ⟨fun c9 => ?_, fun c9 => ?_⟩
  · try simp only [if_pos c9] at k
    intro v2 ev2
    subst ev2
    intro v3 ev3
    subst ev3
    intro v4 ev4
    subst ev4
    intro v5 ev5
    subst ev5
    intro v6 ev6
    subst ev6
    intro v7 ev7
    subst ev7
    intro v8 ev8
    subst ev8
    intro v9 ev9
    subst ev9
    exact k
  · try simp only [if_neg c9] at k
    exact k
/-! 77: StoneBacks$Stones.load(I)I -/
def H_77_4 (d : Nat) (h : mxH) (a : Nat) (i1 : Int32) (i2 : Int32) (i3 : Int32) (Q : mxO → mxH → Prop) : Prop := mx_wp d 77 4 [some (.ref (a + 7)), some (.int i1), some (.int i2), some (.int i3)] [] h Q
set_option maxRecDepth 8000 in
theorem tr_77_0 {d : Nat} {h : mxH} {Q : mxO → mxH → Prop} {a : Nat} {i1 : Int32} (G : mxG h) (hVa : (mxT a).1 = 9) (H : H_77_4 d h a i1 0 0 Q) : mx_wp d 77 0 (mx_fr 77 [.ref (a + 7), .int i1]) [] h Q := by
  show mx_wp d 77 0 [some (.ref (a + 7)), some (.int i1), none, none] [] h Q
  refine wp_steps (i' := 4) (ls' := [some (.ref (a + 7)), some (.int i1), some (.int 0), some (.int 0)]) (st' := []) (h' := h) (P := True) 4 rfl rfl trivial ?_
  exact H 
set_option maxRecDepth 8000 in
theorem tr_77_4 {d : Nat} {h : mxH} {Q : mxO → mxH → Prop} {a : Nat} {i1 : Int32} {i2 : Int32} {i3 : Int32} (G : mxG h) (hVa : (mxT a).1 = 9) (H : ((i3 < (mx_i h (a + 7) 0) → (vp_in i3 10 ∧ (∀ (v3 : Int32), v3 = ((if (mx_i h (a + 11) i3.toNatClampNeg) = 0 then (if (mx_i h (a + 12) i3.toNatClampNeg) = i1 then (i2 + (mx_i h (a + 10) i3.toNatClampNeg)) else i2) else i2) : Int32) → H_77_4 d h a i1 v3 (i3 + 1) Q))) ∧ (¬ i3 < (mx_i h (a + 7) 0) → Q (.inl (some (.int i2))) h))) : H_77_4 d h a i1 i2 i3 Q := by
  show mx_wp d 77 4 [some (.ref (a + 7)), some (.int i1), some (.int i2), some (.int i3)] [] h Q
  refine wp_steps (i' := 7) (ls' := [some (.ref (a + 7)), some (.int i1), some (.int i2), some (.int i3)]) (st' := [.int (mx_i h (a + 7) 0), .int i3]) (h' := h) (P := ((mxT (a + 7)).1 = 7 ∧ mxG h) ∧ True) 3 rfl rfl ⟨⟨(congrArg Prod.fst (sV_7 hVa)), G⟩, trivial⟩ ?_
  refine wp_br (P := True) (c := (mx_i h (a + 7) 0) ≤ i3) (t := 28) (st' := []) rfl rfl trivial (fun c1 => ?_) (fun c1 => ?_)
  · have c1 := Int32.not_lt.mpr c1
    have H := H.2 c1
    refine wp_steps (i' := 29) (ls' := [some (.ref (a + 7)), some (.int i1), some (.int i2), some (.int i3)]) (st' := [.int i2]) (h' := h) (P := True) 1 rfl rfl trivial ?_
    exact wp_end (o := .inl (some (.int i2))) (h' := h) (P := True) rfl rfl trivial H
  · have c1 := Int32.not_le.mp c1
    have H := H.1 c1
    obtain ⟨o2, H⟩ := H
    refine wp_steps (i' := 12) (ls' := [some (.ref (a + 7)), some (.int i1), some (.int i2), some (.int i3)]) (st' := [.int (mx_i h (a + 11) i3.toNatClampNeg)]) (h' := h) (P := ((mxT (a + 7)).1 = 7 ∧ mxG h) ∧ (((mxT (a + 11)).1 = 50 ∧ mxG h) ∧ vp_in i3 (mxT (a + 11)).2) ∧ True) 4 rfl rfl ⟨⟨(congrArg Prod.fst (sV_7 hVa)), G⟩, (cA (sV_11 hVa) G o2), trivial⟩ ?_
    have J : ∀ (v3 : Int32) (ev3 : v3 = ((if (mx_i h (a + 11) i3.toNatClampNeg) = 0 then (if (mx_i h (a + 12) i3.toNatClampNeg) = i1 then (i2 + (mx_i h (a + 10) i3.toNatClampNeg)) else i2) else i2) : Int32)), mx_wp d 77 26 [some (.ref (a + 7)), some (.int i1), some (.int v3), some (.int i3)] [] h Q := by
      intro v3 ev3
      have H := H v3 ev3
      refine wp_steps (i' := 27) (ls' := [some (.ref (a + 7)), some (.int i1), some (.int v3), some (.int (i3 + 1))]) (st' := []) (h' := h) (P := True) 1 rfl rfl trivial ?_
      refine wp_J (j := 4) (st' := []) rfl rfl ?_
      exact H 
    refine wp_br (P := True) (c := ¬ (mx_i h (a + 11) i3.toNatClampNeg) = 0) (t := 26) (st' := []) rfl rfl trivial (fun c4 => ?_) (fun c4 => ?_)
    · skip
      exact J _ (by rw [if_neg c4])
    · have c4 := Decidable.of_not_not c4
      refine wp_steps (i' := 18) (ls' := [some (.ref (a + 7)), some (.int i1), some (.int i2), some (.int i3)]) (st' := [.int i1, .int (mx_i h (a + 12) i3.toNatClampNeg)]) (h' := h) (P := ((mxT (a + 7)).1 = 7 ∧ mxG h) ∧ (((mxT (a + 12)).1 = 50 ∧ mxG h) ∧ vp_in i3 (mxT (a + 12)).2) ∧ True) 5 rfl rfl ⟨⟨(congrArg Prod.fst (sV_7 hVa)), G⟩, (cA (sV_12 hVa) G o2), trivial⟩ ?_
      refine wp_br (P := True) (c := ¬ (mx_i h (a + 12) i3.toNatClampNeg) = i1) (t := 26) (st' := []) rfl rfl trivial (fun c5 => ?_) (fun c5 => ?_)
      · skip
        exact J _ (by rw [if_pos c4, if_neg c5])
      · have c5 := Decidable.of_not_not c5
        refine wp_steps (i' := 26) (ls' := [some (.ref (a + 7)), some (.int i1), some (.int (i2 + (mx_i h (a + 10) i3.toNatClampNeg))), some (.int i3)]) (st' := []) (h' := h) (P := ((mxT (a + 7)).1 = 7 ∧ mxG h) ∧ (((mxT (a + 10)).1 = 50 ∧ mxG h) ∧ vp_in i3 (mxT (a + 10)).2) ∧ True) 7 rfl rfl ⟨⟨(congrArg Prod.fst (sV_7 hVa)), G⟩, (cA (sV_10 hVa) G o2), trivial⟩ ?_
        exact J _ (by rw [if_pos c4, if_pos c5])
def F_77_4 (h : mxH) (a : Nat) (i1 : Int32) (z : Nat) (s : Int32) : Int32 := ((if (mx_i h (a + 11) (nI z).toNatClampNeg) = 0 then (if (mx_i h (a + 12) (nI z).toNatClampNeg) = i1 then (s + (mx_i h (a + 10) (nI z).toNatClampNeg)) else s) else s) : Int32)
theorem lp_77_4 {d : Nat} {h : mxH} {Q : mxO → mxH → Prop} {a : Nat} {i1 : Int32} {s0 : Int32} {n : Nat} (z0 : Nat) (G : mxG h) (hVa : (mxT a).1 = 9) (hB : (mx_i h (a + 7) 0) = nI n) (hn : n < 2147483648) (hz : z0 ≤ n) (ob : ∀ z, z0 ≤ z → z < n → (vp_in (nI z) 10 ∧ True)) (k : Q (.inl (some (.int (fz (F_77_4 h a i1) z0 n s0)))) h) : H_77_4 d h a i1 s0 (nI z0) Q := by
  have L : ∀ (j z : Nat), z0 ≤ z → z + j = n → H_77_4 d h a i1 (fz (F_77_4 h a i1) z0 z s0) (nI z) Q := by
    intro j
    induction j with
    | zero =>
      intro z hz0 hzn
      have hzn : z = n := by omega
      subst hzn
      refine tr_77_4 G hVa ⟨fun c9 => absurd (hB ▸ c9) Int32.lt_irrefl, fun c9 => k⟩
    | succ j ih =>
      intro z hz0 hzn
      have hih := ih (z + 1) (by omega) (by omega)
      rw [nI_succ, fz_s hz0] at hih
      have hob := ob z hz0 (by omega)
      refine tr_77_4 G hVa ⟨fun c9 => ?_, fun c9 => absurd (hB.symm ▸ nI_lt (by omega) hn) c9⟩
      obtain ⟨q0, hob⟩ := hob
      refine ⟨q0, ?_⟩
      intro v3 ev3
      subst ev3
      exact hih
  have L0 := L (n - z0) z0 (Nat.le_refl _) (by omega)
  simp only [fz_0] at L0
  exact L0
def V_77 (h : mxH) (a : Nat) (i1 : Int32) : Int32 := (fo (F_77_4 h a i1) ((mx_i h (a + 7) 0)).toNatClampNeg 0)
theorem sp_77 {d : Nat} {h : mxH} {Q : mxO → mxH → Prop} {a : Nat} {i1 : Int32} (G : mxG h) (hVa : (mxT a).1 = 9) (hcb : cB (mx_i h (a + 7) 0) 10) (k : Q (.inl (some (.int (V_77 h a i1)))) h) : mx_wp d 77 0 (mx_fr 77 [.ref (a + 7), .int i1]) [] h Q := by
  unfold V_77 at k
  obtain ⟨n, hn, hB⟩ := hcb
  rw [hB, nI_clamp (by omega)] at k
  refine tr_77_0 G hVa ?_
  refine lp_77_4 (s0 := 0) 0 G hVa hB (by omega) (Nat.zero_le _) (fun z _ hz => ⟨vp_in_nI (by omega) (by decide), trivial⟩) ?_
  simp only [fz_fo]
  exact k
/-! 15: StoneBacks$Choices.fewestGoesOf(II)I -/
def H_15_4 (d : Nat) (h : mxH) (i1 : Int32) (i2 : Int32) (i3 : Int32) (i4 : Int32) (Q : mxO → mxH → Prop) : Prop := ∀ (w5 : Option Value), mx_wp d 15 4 [some (.ref 109), some (.int i1), some (.int i2), some (.int i3), some (.int i4), w5] [] h Q
set_option maxRecDepth 8000 in
theorem tr_15_0 {d : Nat} {h : mxH} {Q : mxO → mxH → Prop} {i1 : Int32} {i2 : Int32} (G : mxG h)  (H : H_15_4 d h i1 i2 (-1) 1 Q) : mx_wp d 15 0 (mx_fr 15 [.ref 109, .int i1, .int i2]) [] h Q := by
  show mx_wp d 15 0 [some (.ref 109), some (.int i1), some (.int i2), none, none, none] [] h Q
  refine wp_steps (i' := 4) (ls' := [some (.ref 109), some (.int i1), some (.int i2), some (.int (-1)), some (.int 1), none]) (st' := []) (h' := h) (P := True) 4 rfl rfl trivial ?_
  exact H _
set_option maxRecDepth 8000 in
theorem tr_15_4 {d : Nat} {h : mxH} {Q : mxO → mxH → Prop}  {i1 : Int32} {i2 : Int32} {i3 : Int32} {i4 : Int32} (G : mxG h)  (H : ((i1 < i4 → Q (.inl (some (.int i3))) h) ∧ (¬ i1 < i4 → ((((i4 &&& (i1 ^^^ (-1))) = 0 → (vp_in i4 64 ∧ ((i2 < (mx_i h 116 i4.toNatClampNeg) → True) ∧ (¬ i2 < (mx_i h 116 i4.toNatClampNeg) → (vp_in (i1 &&& (i4 ^^^ (-1))) 64 ∧ True))))) ∧ (¬ (i4 &&& (i1 ^^^ (-1))) = 0 → True)) ∧ (∀ (v2 : Int32), v2 = ((if (i4 &&& (i1 ^^^ (-1))) = 0 then (if i2 < (mx_i h 116 i4.toNatClampNeg) then i3 else (if (mx_i h 115 (i1 &&& (i4 ^^^ (-1))).toNatClampNeg) = (-1) then i3 else (if i3 = (-1) then ((mx_i h 115 (i1 &&& (i4 ^^^ (-1))).toNatClampNeg) + 1) else (if ((mx_i h 115 (i1 &&& (i4 ^^^ (-1))).toNatClampNeg) + 1) < i3 then ((mx_i h 115 (i1 &&& (i4 ^^^ (-1))).toNatClampNeg) + 1) else i3)))) else i3) : Int32) → H_15_4 d h i1 i2 v2 (i4 + 1) Q))))) : H_15_4 d h i1 i2 i3 i4 Q := by
  intro w5
  show mx_wp d 15 4 [some (.ref 109), some (.int i1), some (.int i2), some (.int i3), some (.int i4), w5] [] h Q
  refine wp_steps (i' := 6) (ls' := [some (.ref 109), some (.int i1), some (.int i2), some (.int i3), some (.int i4), w5]) (st' := [.int i1, .int i4]) (h' := h) (P := True) 2 rfl rfl trivial ?_
  refine wp_br (P := True) (c := i1 < i4) (t := 45) (st' := []) rfl rfl trivial (fun c1 => ?_) (fun c1 => ?_)
  · skip
    have H := H.1 c1
    refine wp_steps (i' := 46) (ls' := [some (.ref 109), some (.int i1), some (.int i2), some (.int i3), some (.int i4), w5]) (st' := [.int i3]) (h' := h) (P := True) 1 rfl rfl trivial ?_
    exact wp_end (o := .inl (some (.int i3))) (h' := h) (P := True) rfl rfl trivial H
  · skip
    have H := H.2 c1
    refine wp_steps (i' := 12) (ls' := [some (.ref 109), some (.int i1), some (.int i2), some (.int i3), some (.int i4), w5]) (st' := [.int (i4 &&& (i1 ^^^ (-1)))]) (h' := h) (P := True) 5 rfl rfl trivial ?_
    have J : ∀ (v2 : Int32) (w3 : Option Value) (ev2 : v2 = ((if (i4 &&& (i1 ^^^ (-1))) = 0 then (if i2 < (mx_i h 116 i4.toNatClampNeg) then i3 else (if (mx_i h 115 (i1 &&& (i4 ^^^ (-1))).toNatClampNeg) = (-1) then i3 else (if i3 = (-1) then ((mx_i h 115 (i1 &&& (i4 ^^^ (-1))).toNatClampNeg) + 1) else (if ((mx_i h 115 (i1 &&& (i4 ^^^ (-1))).toNatClampNeg) + 1) < i3 then ((mx_i h 115 (i1 &&& (i4 ^^^ (-1))).toNatClampNeg) + 1) else i3)))) else i3) : Int32)), mx_wp d 15 43 [some (.ref 109), some (.int i1), some (.int i2), some (.int v2), some (.int i4), w3] [] h Q := by
      intro v2 w3 ev2
      have H := H.2 v2 ev2
      refine wp_steps (i' := 44) (ls' := [some (.ref 109), some (.int i1), some (.int i2), some (.int v2), some (.int (i4 + 1)), w3]) (st' := []) (h' := h) (P := True) 1 rfl rfl trivial ?_
      refine wp_J (j := 4) (st' := []) rfl rfl ?_
      exact H _
    have H := H.1
    refine wp_br (P := True) (c := ¬ (i4 &&& (i1 ^^^ (-1))) = 0) (t := 43) (st' := []) rfl rfl trivial (fun c4 => ?_) (fun c4 => ?_)
    · skip
      exact J _ _ (by rw [if_neg c4])
    · have c4 := Decidable.of_not_not c4
      have H := H.1 c4
      obtain ⟨o5, H⟩ := H
      refine wp_steps (i' := 18) (ls' := [some (.ref 109), some (.int i1), some (.int i2), some (.int i3), some (.int i4), w5]) (st' := [.int i2, .int (mx_i h 116 i4.toNatClampNeg)]) (h' := h) (P := ((mxT 109).1 = 2 ∧ mxG h) ∧ (((mxT 116).1 = 50 ∧ mxG h) ∧ vp_in i4 (mxT 116).2) ∧ True) 5 rfl rfl ⟨⟨(congrArg Prod.fst sT_109), G⟩, (cA sT_116 G o5), trivial⟩ ?_
      refine wp_br (P := True) (c := i2 < (mx_i h 116 i4.toNatClampNeg)) (t := 43) (st' := []) rfl rfl trivial (fun c6 => ?_) (fun c6 => ?_)
      · skip
        exact J _ _ (by rw [if_pos c4, if_pos c6])
      · skip
        have H := H.2 c6
        obtain ⟨o7, H⟩ := H
        refine wp_steps (i' := 30) (ls' := [some (.ref 109), some (.int i1), some (.int i2), some (.int i3), some (.int i4), some (.int (mx_i h 115 (i1 &&& (i4 ^^^ (-1))).toNatClampNeg))]) (st' := [.int (-1), .int (mx_i h 115 (i1 &&& (i4 ^^^ (-1))).toNatClampNeg)]) (h' := h) (P := ((mxT 109).1 = 2 ∧ mxG h) ∧ (((mxT 115).1 = 50 ∧ mxG h) ∧ vp_in (i1 &&& (i4 ^^^ (-1))) (mxT 115).2) ∧ True) 11 rfl rfl ⟨⟨(congrArg Prod.fst sT_109), G⟩, (cA sT_115 G o7), trivial⟩ ?_
        refine wp_br (P := True) (c := (mx_i h 115 (i1 &&& (i4 ^^^ (-1))).toNatClampNeg) = (-1)) (t := 43) (st' := []) rfl rfl trivial (fun c8 => ?_) (fun c8 => ?_)
        · skip
          exact J _ _ (by rw [if_pos c4, if_neg c6, if_pos c8])
        · skip
          refine wp_steps (i' := 33) (ls' := [some (.ref 109), some (.int i1), some (.int i2), some (.int i3), some (.int i4), some (.int (mx_i h 115 (i1 &&& (i4 ^^^ (-1))).toNatClampNeg))]) (st' := [.int (-1), .int i3]) (h' := h) (P := True) 2 rfl rfl trivial ?_
          refine wp_br (P := True) (c := i3 = (-1)) (t := 39) (st' := []) rfl rfl trivial (fun c9 => ?_) (fun c9 => ?_)
          · skip
            refine wp_steps (i' := 43) (ls' := [some (.ref 109), some (.int i1), some (.int i2), some (.int ((mx_i h 115 (i1 &&& (i4 ^^^ (-1))).toNatClampNeg) + 1)), some (.int i4), some (.int (mx_i h 115 (i1 &&& (i4 ^^^ (-1))).toNatClampNeg))]) (st' := []) (h' := h) (P := True) 4 rfl rfl trivial ?_
            exact J _ _ (by rw [if_pos c4, if_neg c6, if_neg c8, if_pos c9])
          · skip
            refine wp_steps (i' := 38) (ls' := [some (.ref 109), some (.int i1), some (.int i2), some (.int i3), some (.int i4), some (.int (mx_i h 115 (i1 &&& (i4 ^^^ (-1))).toNatClampNeg))]) (st' := [.int i3, .int ((mx_i h 115 (i1 &&& (i4 ^^^ (-1))).toNatClampNeg) + 1)]) (h' := h) (P := True) 4 rfl rfl trivial ?_
            refine wp_br (P := True) (c := i3 ≤ ((mx_i h 115 (i1 &&& (i4 ^^^ (-1))).toNatClampNeg) + 1)) (t := 43) (st' := []) rfl rfl trivial (fun c10 => ?_) (fun c10 => ?_)
            · have c10 := Int32.not_lt.mpr c10
              exact J _ _ (by rw [if_pos c4, if_neg c6, if_neg c8, if_neg c9, if_neg c10])
            · have c10 := Int32.not_le.mp c10
              refine wp_steps (i' := 43) (ls' := [some (.ref 109), some (.int i1), some (.int i2), some (.int ((mx_i h 115 (i1 &&& (i4 ^^^ (-1))).toNatClampNeg) + 1)), some (.int i4), some (.int (mx_i h 115 (i1 &&& (i4 ^^^ (-1))).toNatClampNeg))]) (st' := []) (h' := h) (P := True) 4 rfl rfl trivial ?_
              exact J _ _ (by rw [if_pos c4, if_neg c6, if_neg c8, if_neg c9, if_pos c10])
def F_15_4 (h : mxH) (i1 : Int32) (i2 : Int32) (z : Nat) (s : Int32) : Int32 := ((if ((nI z) &&& (i1 ^^^ (-1))) = 0 then (if i2 < (mx_i h 116 (nI z).toNatClampNeg) then s else (if (mx_i h 115 (i1 &&& ((nI z) ^^^ (-1))).toNatClampNeg) = (-1) then s else (if s = (-1) then ((mx_i h 115 (i1 &&& ((nI z) ^^^ (-1))).toNatClampNeg) + 1) else (if ((mx_i h 115 (i1 &&& ((nI z) ^^^ (-1))).toNatClampNeg) + 1) < s then ((mx_i h 115 (i1 &&& ((nI z) ^^^ (-1))).toNatClampNeg) + 1) else s)))) else s) : Int32)
theorem lp_15_4 {d : Nat} {h : mxH} {Q : mxO → mxH → Prop} {i1 : Int32} {i2 : Int32} {s0 : Int32} {n : Nat} (z0 : Nat) (G : mxG h)  (hB : i1 = nI (n - 1)) (hn1 : 1 ≤ n) (hn : n < 2147483648) (hz : z0 ≤ n) (ob : ∀ z, z0 ≤ z → z < n → (((((nI z) &&& (i1 ^^^ (-1))) = 0 → (vp_in (nI z) 64 ∧ ((i2 < (mx_i h 116 (nI z).toNatClampNeg) → True) ∧ (¬ i2 < (mx_i h 116 (nI z).toNatClampNeg) → (vp_in (i1 &&& ((nI z) ^^^ (-1))) 64 ∧ True))))) ∧ (¬ ((nI z) &&& (i1 ^^^ (-1))) = 0 → True)) ∧ True)) (k : Q (.inl (some (.int (fz (F_15_4 h i1 i2) z0 n s0)))) h) : H_15_4 d h i1 i2 s0 (nI z0) Q := by
  have L : ∀ (j z : Nat), z0 ≤ z → z + j = n → H_15_4 d h i1 i2 (fz (F_15_4 h i1 i2) z0 z s0) (nI z) Q := by
    intro j
    induction j with
    | zero =>
      intro z hz0 hzn
      have hzn : z = n := by omega
      subst hzn
      refine tr_15_4 G  ⟨fun c9 => k, fun c9 => absurd (hB.symm ▸ nI_lt (by omega) hn) c9⟩
    | succ j ih =>
      intro z hz0 hzn
      have hih := ih (z + 1) (by omega) (by omega)
      rw [nI_succ, fz_s hz0] at hih
      have hob := ob z hz0 (by omega)
      refine tr_15_4 G  ⟨fun c9 => absurd (hB ▸ c9) (nI_nlt (by omega) (by omega)), fun c9 => ?_⟩
      obtain ⟨q0, hob⟩ := hob
      refine ⟨q0, ?_⟩
      intro v2 ev2
      subst ev2
      exact hih
  have L0 := L (n - z0) z0 (Nat.le_refl _) (by omega)
  simp only [fz_0] at L0
  exact L0
/-! 17: StoneBacks$Choices.lenderHas(IZ)I -/
set_option maxRecDepth 8000 in
theorem tr_17_0 {d : Nat} {h : mxH} {Q : mxO → mxH → Prop} {i0 : Int32} {i1 : Int32} (G : mxG h)  (H : (∀ (v1 : Int32), v1 = ((if i1 = 0 then i0 else (-i0)) : Int32) → Q (.inl (some (.int v1))) h)) : mx_wp d 17 0 (mx_fr 17 [.int i0, .int i1]) [] h Q := by
  show mx_wp d 17 0 [some (.int i0), some (.int i1)] [] h Q
  refine wp_steps (i' := 1) (ls' := [some (.int i0), some (.int i1)]) (st' := [.int i1]) (h' := h) (P := True) 1 rfl rfl trivial ?_
  have J : ∀ (v1 : Int32) (ev1 : v1 = ((if i1 = 0 then i0 else (-i0)) : Int32)), mx_wp d 17 6 [some (.int i0), some (.int i1)] [.int v1] h Q := by
    intro v1 ev1
    have H := H v1 ev1
    exact wp_end (o := .inl (some (.int v1))) (h' := h) (P := True) rfl rfl trivial H
  refine wp_br (P := True) (c := i1 = 0) (t := 5) (st' := []) rfl rfl trivial (fun c2 => ?_) (fun c2 => ?_)
  · skip
    refine wp_steps (i' := 6) (ls' := [some (.int i0), some (.int i1)]) (st' := [.int i0]) (h' := h) (P := True) 1 rfl rfl trivial ?_
    exact J _ (by rw [if_pos c2])
  · skip
    refine wp_steps (i' := 4) (ls' := [some (.int i0), some (.int i1)]) (st' := [.int (-i0)]) (h' := h) (P := True) 2 rfl rfl trivial ?_
    refine wp_J (j := 6) (st' := [.int (-i0)]) rfl rfl ?_
    exact J _ (by rw [if_neg c2])
def V_17 (h : mxH) (i0 : Int32) (i1 : Int32) : Int32 := ((if i1 = 0 then i0 else (-i0)) : Int32)
theorem sp_17 {d : Nat} {h : mxH} {Q : mxO → mxH → Prop} {i0 : Int32} {i1 : Int32} (G : mxG h)  (k : Q (.inl (some (.int (V_17 h i0 i1)))) h) : mx_wp d 17 0 (mx_fr 17 [.int i0, .int i1]) [] h Q := by
  unfold V_17 at k
  refine tr_17_0 G  ?_
  intro v1 ev1
  subst ev1
  exact k
/-! 18: StoneBacks$Choices.debtorHas(IIZ)I -/
set_option maxRecDepth 8000 in
theorem tr_18_0 {d : Nat} {h : mxH} {Q : mxO → mxH → Prop} {i0 : Int32} {i1 : Int32} {i2 : Int32} (G : mxG h)  (H : (∀ (v1 : Int32), v1 = ((if i2 = 0 then (i0 - i1) else (-10)) : Int32) → Q (.inl (some (.int v1))) h)) : mx_wp d 18 0 (mx_fr 18 [.int i0, .int i1, .int i2]) [] h Q := by
  show mx_wp d 18 0 [some (.int i0), some (.int i1), some (.int i2)] [] h Q
  refine wp_steps (i' := 1) (ls' := [some (.int i0), some (.int i1), some (.int i2)]) (st' := [.int i2]) (h' := h) (P := True) 1 rfl rfl trivial ?_
  have J : ∀ (v1 : Int32) (ev1 : v1 = ((if i2 = 0 then (i0 - i1) else (-10)) : Int32)), mx_wp d 18 7 [some (.int i0), some (.int i1), some (.int i2)] [.int v1] h Q := by
    intro v1 ev1
    have H := H v1 ev1
    exact wp_end (o := .inl (some (.int v1))) (h' := h) (P := True) rfl rfl trivial H
  refine wp_br (P := True) (c := i2 = 0) (t := 4) (st' := []) rfl rfl trivial (fun c2 => ?_) (fun c2 => ?_)
  · skip
    refine wp_steps (i' := 7) (ls' := [some (.int i0), some (.int i1), some (.int i2)]) (st' := [.int (i0 - i1)]) (h' := h) (P := True) 3 rfl rfl trivial ?_
    exact J _ (by rw [if_pos c2])
  · skip
    refine wp_steps (i' := 3) (ls' := [some (.int i0), some (.int i1), some (.int i2)]) (st' := [.int (-10)]) (h' := h) (P := True) 1 rfl rfl trivial ?_
    refine wp_J (j := 7) (st' := [.int (-10)]) rfl rfl ?_
    exact J _ (by rw [if_neg c2])
def V_18 (h : mxH) (i0 : Int32) (i1 : Int32) (i2 : Int32) : Int32 := ((if i2 = 0 then (i0 - i1) else (-10)) : Int32)
theorem sp_18 {d : Nat} {h : mxH} {Q : mxO → mxH → Prop} {i0 : Int32} {i1 : Int32} {i2 : Int32} (G : mxG h)  (k : Q (.inl (some (.int (V_18 h i0 i1 i2)))) h) : mx_wp d 18 0 (mx_fr 18 [.int i0, .int i1, .int i2]) [] h Q := by
  unfold V_18 at k
  refine tr_18_0 G  ?_
  intro v1 ev1
  subst ev1
  exact k
/-! 16: StoneBacks$Choices.steadyChoices(II)I -/
def H_16_4 (d : Nat) (h : mxH) (i0 : Int32) (i1 : Int32) (i2 : Int32) (i3 : Int32) (Q : mxO → mxH → Prop) : Prop := ∀ (w4 : Option Value) (w5 : Option Value) (w6 : Option Value), mx_wp d 16 4 [some (.int i0), some (.int i1), some (.int i2), some (.int i3), w4, w5, w6] [] h Q
set_option maxRecDepth 8000 in
theorem tr_16_0 {d : Nat} {h : mxH} {Q : mxO → mxH → Prop} {i0 : Int32} {i1 : Int32} (G : mxG h)  (H : H_16_4 (d + 1) h i0 i1 0 0 Q) : mx_wp (d + 1) 16 0 (mx_fr 16 [.int i0, .int i1]) [] h Q := by
  show mx_wp (d + 1) 16 0 [some (.int i0), some (.int i1), none, none, none, none, none] [] h Q
  refine wp_steps (i' := 4) (ls' := [some (.int i0), some (.int i1), some (.int 0), some (.int 0), none, none, none]) (st' := []) (h' := h) (P := True) 4 rfl rfl trivial ?_
  exact H _ _ _
set_option maxRecDepth 8000 in
theorem tr_16_4 {d : Nat} {h : mxH} {Q : mxO → mxH → Prop}  {i0 : Int32} {i1 : Int32} {i2 : Int32} {i3 : Int32} (G : mxG h)  (H : ((i3 < 4 → (∀ (v2 : Int32), v2 = ((if (i3 / 2) = 0 then i1 else (i1 / 2)) : Int32) → (∀ (v3 : Int32), v3 = ((if (i3 / 2) = 0 then (i1 / 2) else i1) : Int32) → (∀ (v4 : Int32), v4 = ((if (i3 - i3 / 2 * 2) = 1 then 1 else 0) : Int32) → (∀ (v5 : Int32), v5 = ((if (V_17 h v2 v4) < (V_17 h v3 v4) then i2 else (if v4 = 0 then (if (V_18 h i0 v2 v4) < (V_18 h i0 v2 (1 : Int32)) then i2 else (i2 ||| ((1 : Int32) <<< (i3 &&& 31)))) else (if (V_18 h i0 v2 v4) < (V_18 h i0 v2 (0 : Int32)) then i2 else (i2 ||| ((1 : Int32) <<< (i3 &&& 31)))))) : Int32) → H_16_4 (d + 1) h i0 i1 v5 (i3 + 1) Q))))) ∧ (¬ i3 < 4 → Q (.inl (some (.int i2))) h))) : H_16_4 (d + 1) h i0 i1 i2 i3 Q := by
  intro w4 w5 w6
  show mx_wp (d + 1) 16 4 [some (.int i0), some (.int i1), some (.int i2), some (.int i3), w4, w5, w6] [] h Q
  refine wp_steps (i' := 6) (ls' := [some (.int i0), some (.int i1), some (.int i2), some (.int i3), w4, w5, w6]) (st' := [.int 4, .int i3]) (h' := h) (P := True) 2 rfl rfl trivial ?_
  refine wp_br (P := True) (c := 4 ≤ i3) (t := 64) (st' := []) rfl rfl trivial (fun c1 => ?_) (fun c1 => ?_)
  · have c1 := Int32.not_lt.mpr c1
    have H := H.2 c1
    refine wp_steps (i' := 65) (ls' := [some (.int i0), some (.int i1), some (.int i2), some (.int i3), w4, w5, w6]) (st' := [.int i2]) (h' := h) (P := True) 1 rfl rfl trivial ?_
    exact wp_end (o := .inl (some (.int i2))) (h' := h) (P := True) rfl rfl trivial H
  · have c1 := Int32.not_le.mp c1
    have H := H.1 c1
    refine wp_steps (i' := 10) (ls' := [some (.int i0), some (.int i1), some (.int i2), some (.int i3), w4, w5, w6]) (st' := [.int (i3 / 2)]) (h' := h) (P := (¬ (2 : Int32) = 0) ∧ True) 3 rfl rfl ⟨(by decide), trivial⟩ ?_
    have J : ∀ (v2 : Int32) (ev2 : v2 = ((if (i3 / 2) = 0 then i1 else (i1 / 2)) : Int32)), mx_wp (d + 1) 16 16 [some (.int i0), some (.int i1), some (.int i2), some (.int i3), w4, w5, w6] [.int v2] h Q := by
      intro v2 ev2
      have H := H v2 ev2
      refine wp_steps (i' := 20) (ls' := [some (.int i0), some (.int i1), some (.int i2), some (.int i3), some (.int v2), w5, w6]) (st' := [.int (i3 / 2)]) (h' := h) (P := (¬ (2 : Int32) = 0) ∧ True) 4 rfl rfl ⟨(by decide), trivial⟩ ?_
      have J : ∀ (v3 : Int32) (ev3 : v3 = ((if (i3 / 2) = 0 then (i1 / 2) else i1) : Int32)), mx_wp (d + 1) 16 26 [some (.int i0), some (.int i1), some (.int i2), some (.int i3), some (.int v2), w5, w6] [.int v3] h Q := by
        intro v3 ev3
        have H := H v3 ev3
        refine wp_steps (i' := 31) (ls' := [some (.int i0), some (.int i1), some (.int i2), some (.int i3), some (.int v2), some (.int v3), w6]) (st' := [.int 1, .int (i3 - i3 / 2 * 2)]) (h' := h) (P := (¬ (2 : Int32) = 0) ∧ True) 5 rfl rfl ⟨(by decide), trivial⟩ ?_
        have J : ∀ (v4 : Int32) (ev4 : v4 = ((if (i3 - i3 / 2 * 2) = 1 then 1 else 0) : Int32)), mx_wp (d + 1) 16 35 [some (.int i0), some (.int i1), some (.int i2), some (.int i3), some (.int v2), some (.int v3), w6] [.int v4] h Q := by
          intro v4 ev4
          have H := H v4 ev4
          refine wp_steps (i' := 38) (ls' := [some (.int i0), some (.int i1), some (.int i2), some (.int i3), some (.int v2), some (.int v3), some (.int v4)]) (st' := [.int v4, .int v2]) (h' := h) (P := True) 3 rfl rfl trivial ?_
          refine wp_call (b := false) (y' := 17) (as := [.int v2, .int v4]) (rest := []) (P := True) rfl (by with_unfolding_all rfl) trivial (Nat.le_of_ble_eq_true rfl) (sp_17 G ?_)
          show mx_wp (d + 1) 16 39 [some (.int i0), some (.int i1), some (.int i2), some (.int i3), some (.int v2), some (.int v3), some (.int v4)] [.int (V_17 h v2 v4)] h Q
          refine wp_steps (i' := 41) (ls' := [some (.int i0), some (.int i1), some (.int i2), some (.int i3), some (.int v2), some (.int v3), some (.int v4)]) (st' := [.int v4, .int v3, .int (V_17 h v2 v4)]) (h' := h) (P := True) 2 rfl rfl trivial ?_
          refine wp_call (b := false) (y' := 17) (as := [.int v3, .int v4]) (rest := [.int (V_17 h v2 v4)]) (P := True) rfl (by with_unfolding_all rfl) trivial (Nat.le_of_ble_eq_true rfl) (sp_17 G ?_)
          show mx_wp (d + 1) 16 42 [some (.int i0), some (.int i1), some (.int i2), some (.int i3), some (.int v2), some (.int v3), some (.int v4)] [.int (V_17 h v3 v4), .int (V_17 h v2 v4)] h Q
          have J : ∀ (v5 : Int32) (ev5 : v5 = ((if (V_17 h v2 v4) < (V_17 h v3 v4) then i2 else (if v4 = 0 then (if (V_18 h i0 v2 v4) < (V_18 h i0 v2 (1 : Int32)) then i2 else (i2 ||| ((1 : Int32) <<< (i3 &&& 31)))) else (if (V_18 h i0 v2 v4) < (V_18 h i0 v2 (0 : Int32)) then i2 else (i2 ||| ((1 : Int32) <<< (i3 &&& 31)))))) : Int32)), mx_wp (d + 1) 16 62 [some (.int i0), some (.int i1), some (.int v5), some (.int i3), some (.int v2), some (.int v3), some (.int v4)] [] h Q := by
            intro v5 ev5
            have H := H v5 ev5
            refine wp_steps (i' := 63) (ls' := [some (.int i0), some (.int i1), some (.int v5), some (.int (i3 + 1)), some (.int v2), some (.int v3), some (.int v4)]) (st' := []) (h' := h) (P := True) 1 rfl rfl trivial ?_
            refine wp_J (j := 4) (st' := []) rfl rfl ?_
            exact H _ _ _
          refine wp_br (P := True) (c := (V_17 h v2 v4) < (V_17 h v3 v4)) (t := 62) (st' := []) rfl rfl trivial (fun c6 => ?_) (fun c6 => ?_)
          · skip
            exact J _ (by rw [if_pos c6])
          · skip
            refine wp_steps (i' := 46) (ls' := [some (.int i0), some (.int i1), some (.int i2), some (.int i3), some (.int v2), some (.int v3), some (.int v4)]) (st' := [.int v4, .int v2, .int i0]) (h' := h) (P := True) 3 rfl rfl trivial ?_
            refine wp_call (b := false) (y' := 18) (as := [.int i0, .int v2, .int v4]) (rest := []) (P := True) rfl (by with_unfolding_all rfl) trivial (Nat.le_of_ble_eq_true rfl) (sp_18 G ?_)
            show mx_wp (d + 1) 16 47 [some (.int i0), some (.int i1), some (.int i2), some (.int i3), some (.int v2), some (.int v3), some (.int v4)] [.int (V_18 h i0 v2 v4)] h Q
            refine wp_steps (i' := 50) (ls' := [some (.int i0), some (.int i1), some (.int i2), some (.int i3), some (.int v2), some (.int v3), some (.int v4)]) (st' := [.int v4, .int v2, .int i0, .int (V_18 h i0 v2 v4)]) (h' := h) (P := True) 3 rfl rfl trivial ?_
            refine wp_br (P := True) (c := ¬ v4 = 0) (t := 53) (st' := [.int v2, .int i0, .int (V_18 h i0 v2 v4)]) rfl rfl trivial (fun c7 => ?_) (fun c7 => ?_)
            · skip
              refine wp_steps (i' := 54) (ls' := [some (.int i0), some (.int i1), some (.int i2), some (.int i3), some (.int v2), some (.int v3), some (.int v4)]) (st' := [.int 0, .int v2, .int i0, .int (V_18 h i0 v2 v4)]) (h' := h) (P := True) 1 rfl rfl trivial ?_
              refine wp_call (b := false) (y' := 18) (as := [.int i0, .int v2, .int 0]) (rest := [.int (V_18 h i0 v2 v4)]) (P := True) rfl (by with_unfolding_all rfl) trivial (Nat.le_of_ble_eq_true rfl) (sp_18 G ?_)
              show mx_wp (d + 1) 16 55 [some (.int i0), some (.int i1), some (.int i2), some (.int i3), some (.int v2), some (.int v3), some (.int v4)] [.int (V_18 h i0 v2 (0 : Int32)), .int (V_18 h i0 v2 v4)] h Q
              refine wp_br (P := True) (c := (V_18 h i0 v2 v4) < (V_18 h i0 v2 (0 : Int32))) (t := 62) (st' := []) rfl rfl trivial (fun c8 => ?_) (fun c8 => ?_)
              · skip
                exact J _ (by rw [if_neg c6, if_neg c7, if_pos c8])
              · skip
                refine wp_steps (i' := 62) (ls' := [some (.int i0), some (.int i1), some (.int (i2 ||| ((1 : Int32) <<< (i3 &&& 31)))), some (.int i3), some (.int v2), some (.int v3), some (.int v4)]) (st' := []) (h' := h) (P := True) 6 rfl rfl trivial ?_
                exact J _ (by rw [if_neg c6, if_neg c7, if_neg c8])
            · have c7 := Decidable.of_not_not c7
              refine wp_steps (i' := 52) (ls' := [some (.int i0), some (.int i1), some (.int i2), some (.int i3), some (.int v2), some (.int v3), some (.int v4)]) (st' := [.int 1, .int v2, .int i0, .int (V_18 h i0 v2 v4)]) (h' := h) (P := True) 1 rfl rfl trivial ?_
              refine wp_J (j := 54) (st' := [.int 1, .int v2, .int i0, .int (V_18 h i0 v2 v4)]) rfl rfl ?_
              refine wp_call (b := false) (y' := 18) (as := [.int i0, .int v2, .int 1]) (rest := [.int (V_18 h i0 v2 v4)]) (P := True) rfl (by with_unfolding_all rfl) trivial (Nat.le_of_ble_eq_true rfl) (sp_18 G ?_)
              show mx_wp (d + 1) 16 55 [some (.int i0), some (.int i1), some (.int i2), some (.int i3), some (.int v2), some (.int v3), some (.int v4)] [.int (V_18 h i0 v2 (1 : Int32)), .int (V_18 h i0 v2 v4)] h Q
              refine wp_br (P := True) (c := (V_18 h i0 v2 v4) < (V_18 h i0 v2 (1 : Int32))) (t := 62) (st' := []) rfl rfl trivial (fun c9 => ?_) (fun c9 => ?_)
              · skip
                exact J _ (by rw [if_neg c6, if_pos c7, if_pos c9])
              · skip
                refine wp_steps (i' := 62) (ls' := [some (.int i0), some (.int i1), some (.int (i2 ||| ((1 : Int32) <<< (i3 &&& 31)))), some (.int i3), some (.int v2), some (.int v3), some (.int v4)]) (st' := []) (h' := h) (P := True) 6 rfl rfl trivial ?_
                exact J _ (by rw [if_neg c6, if_pos c7, if_neg c9])
        refine wp_br (P := True) (c := ¬ (i3 - i3 / 2 * 2) = 1) (t := 34) (st' := []) rfl rfl trivial (fun c10 => ?_) (fun c10 => ?_)
        · skip
          refine wp_steps (i' := 35) (ls' := [some (.int i0), some (.int i1), some (.int i2), some (.int i3), some (.int v2), some (.int v3), w6]) (st' := [.int 0]) (h' := h) (P := True) 1 rfl rfl trivial ?_
          exact J _ (by rw [if_neg c10])
        · have c10 := Decidable.of_not_not c10
          refine wp_steps (i' := 33) (ls' := [some (.int i0), some (.int i1), some (.int i2), some (.int i3), some (.int v2), some (.int v3), w6]) (st' := [.int 1]) (h' := h) (P := True) 1 rfl rfl trivial ?_
          refine wp_J (j := 35) (st' := [.int 1]) rfl rfl ?_
          exact J _ (by rw [if_pos c10])
      refine wp_br (P := True) (c := ¬ (i3 / 2) = 0) (t := 25) (st' := []) rfl rfl trivial (fun c11 => ?_) (fun c11 => ?_)
      · skip
        refine wp_steps (i' := 26) (ls' := [some (.int i0), some (.int i1), some (.int i2), some (.int i3), some (.int v2), w5, w6]) (st' := [.int i1]) (h' := h) (P := True) 1 rfl rfl trivial ?_
        exact J _ (by rw [if_neg c11])
      · have c11 := Decidable.of_not_not c11
        refine wp_steps (i' := 24) (ls' := [some (.int i0), some (.int i1), some (.int i2), some (.int i3), some (.int v2), w5, w6]) (st' := [.int (i1 / 2)]) (h' := h) (P := (¬ (2 : Int32) = 0) ∧ True) 3 rfl rfl ⟨(by decide), trivial⟩ ?_
        refine wp_J (j := 26) (st' := [.int (i1 / 2)]) rfl rfl ?_
        exact J _ (by rw [if_pos c11])
    refine wp_br (P := True) (c := ¬ (i3 / 2) = 0) (t := 13) (st' := []) rfl rfl trivial (fun c12 => ?_) (fun c12 => ?_)
    · skip
      refine wp_steps (i' := 16) (ls' := [some (.int i0), some (.int i1), some (.int i2), some (.int i3), w4, w5, w6]) (st' := [.int (i1 / 2)]) (h' := h) (P := (¬ (2 : Int32) = 0) ∧ True) 3 rfl rfl ⟨(by decide), trivial⟩ ?_
      exact J _ (by rw [if_neg c12])
    · have c12 := Decidable.of_not_not c12
      refine wp_steps (i' := 12) (ls' := [some (.int i0), some (.int i1), some (.int i2), some (.int i3), w4, w5, w6]) (st' := [.int i1]) (h' := h) (P := True) 1 rfl rfl trivial ?_
      refine wp_J (j := 16) (st' := [.int i1]) rfl rfl ?_
      exact J _ (by rw [if_pos c12])
def F_16_4 (h : mxH) (i0 : Int32) (i1 : Int32) (z : Nat) (s : Int32) : Int32 := ((if (V_17 h ((if ((nI z) / 2) = 0 then i1 else (i1 / 2)) : Int32) ((if ((nI z) - (nI z) / 2 * 2) = 1 then 1 else 0) : Int32)) < (V_17 h ((if ((nI z) / 2) = 0 then (i1 / 2) else i1) : Int32) ((if ((nI z) - (nI z) / 2 * 2) = 1 then 1 else 0) : Int32)) then s else (if ((if ((nI z) - (nI z) / 2 * 2) = 1 then 1 else 0) : Int32) = 0 then (if (V_18 h i0 ((if ((nI z) / 2) = 0 then i1 else (i1 / 2)) : Int32) ((if ((nI z) - (nI z) / 2 * 2) = 1 then 1 else 0) : Int32)) < (V_18 h i0 ((if ((nI z) / 2) = 0 then i1 else (i1 / 2)) : Int32) (1 : Int32)) then s else (s ||| ((1 : Int32) <<< ((nI z) &&& 31)))) else (if (V_18 h i0 ((if ((nI z) / 2) = 0 then i1 else (i1 / 2)) : Int32) ((if ((nI z) - (nI z) / 2 * 2) = 1 then 1 else 0) : Int32)) < (V_18 h i0 ((if ((nI z) / 2) = 0 then i1 else (i1 / 2)) : Int32) (0 : Int32)) then s else (s ||| ((1 : Int32) <<< ((nI z) &&& 31)))))) : Int32)
theorem lp_16_4 {d : Nat} {h : mxH} {Q : mxO → mxH → Prop} {i0 : Int32} {i1 : Int32} {s0 : Int32} {n : Nat} (z0 : Nat) (G : mxG h)  (hB : (4 : Int32) = nI n) (hn : n < 2147483648) (hz : z0 ≤ n) (k : Q (.inl (some (.int (fz (F_16_4 h i0 i1) z0 n s0)))) h) : H_16_4 (d + 1) h i0 i1 s0 (nI z0) Q := by
  have L : ∀ (j z : Nat), z0 ≤ z → z + j = n → H_16_4 (d + 1) h i0 i1 (fz (F_16_4 h i0 i1) z0 z s0) (nI z) Q := by
    intro j
    induction j with
    | zero =>
      intro z hz0 hzn
      have hzn : z = n := by omega
      subst hzn
      refine tr_16_4 G  ⟨fun c9 => absurd (hB ▸ c9) Int32.lt_irrefl, fun c9 => k⟩
    | succ j ih =>
      intro z hz0 hzn
      have hih := ih (z + 1) (by omega) (by omega)
      rw [nI_succ, fz_s hz0] at hih
      refine tr_16_4 G  ⟨fun c9 => ?_, fun c9 => absurd (hB.symm ▸ nI_lt (by omega) hn) c9⟩
      intro v2 ev2
      subst ev2
      intro v3 ev3
      subst ev3
      intro v4 ev4
      subst ev4
      intro v5 ev5
      subst ev5
      exact hih
  have L0 := L (n - z0) z0 (Nat.le_refl _) (by omega)
  simp only [fz_0] at L0
  exact L0
def V_16 (h : mxH) (i0 : Int32) (i1 : Int32) : Int32 := (fo (F_16_4 h i0 i1) 4 0)
theorem sp_16 {d : Nat} {h : mxH} {Q : mxO → mxH → Prop} {i0 : Int32} {i1 : Int32} (G : mxG h)  (k : Q (.inl (some (.int (V_16 h i0 i1)))) h) : mx_wp (d + 1) 16 0 (mx_fr 16 [.int i0, .int i1]) [] h Q := by
  unfold V_16 at k
  obtain ⟨n, hn, hB, hn2⟩ : ∃ n : Nat, n ≤ 4 ∧ (4 : Int32) = nI n ∧ n = 4 := ⟨4, Nat.le_refl _, rfl, rfl⟩
  rw [← hn2] at k
  refine tr_16_0 G  ?_
  refine lp_16_4 (s0 := 0) 0 G  hB (by omega) (Nat.zero_le _) ?_
  simp only [fz_fo]
  exact k
/-! 20: StoneBacks$Law.copyFrom(LStoneBacks$Law;)V -/
set_option maxRecDepth 8000 in
theorem tr_20_0 {d : Nat} {h : mxH} {Q : mxO → mxH → Prop} {b : Nat} {e : Nat} (G : mxG h) (hVb : (mxT b).1 = 3) (hVe : (mxT e).1 = 3) (H : (((mx_i h e 0) = 0 ∨ (mx_i h e 0) = 1) ∧ (∀ h2, h2 = mx_wi h b 0 (mx_i h e 0) → (∀ h5, h5 = mx_wi h2 b 1 (mx_i h2 e 1) → (∀ h8, h8 = mx_wi h5 b 2 (mx_i h5 e 2) → (∀ h11, h11 = mx_wrow h8 (b + 1) (va_cpy (mx_i h8 (e + 1)) (mx_i h8 (b + 1)) 0 0 12) → (∀ h14, h14 = mx_wrow h11 (b + 2) (va_cpy (mx_i h11 (e + 2)) (mx_i h11 (b + 2)) 0 0 12) → (∀ h17, h17 = mx_wrow h14 (b + 3) (va_cpy (mx_i h14 (e + 3)) (mx_i h14 (b + 3)) 0 0 12) → (∀ h20, h20 = mx_wrow h17 (b + 4) (va_cpy (mx_i h17 (e + 4)) (mx_i h17 (b + 4)) 0 0 400) → Q (.inl none) h20))))))))) : mx_wp d 20 0 (mx_fr 20 [.ref b, .ref e]) [] h Q := by
  show mx_wp d 20 0 [some (.ref b), some (.ref e)] [] h Q
  obtain ⟨o1, H⟩ := H
  refine wp_steps (i' := 4) (ls' := [some (.ref b), some (.ref e)]) (st' := []) (h' := mx_wi h b 0 (mx_i h e 0)) (P := ((mxT e).1 = 3 ∧ mxG h) ∧ (((mxT b).1 = 3 ∧ mxG h) ∧ ((mx_i h e 0) = 0 ∨ (mx_i h e 0) = 1)) ∧ True) 4 rfl rfl ⟨⟨(congrArg Prod.fst (sL_0 hVe)), G⟩, ⟨⟨(congrArg Prod.fst (sL_0 hVb)), G⟩, o1⟩, trivial⟩ ?_
  obtain ⟨h2, e3⟩ : ∃ z9, z9 = mx_wi h b 0 (mx_i h e 0) := ⟨_, rfl⟩
  rw [← e3]
  have H := H h2 e3
  have G4 : mxG h2 := e3 ▸ mxG_wi G
  refine wp_steps (i' := 8) (ls' := [some (.ref b), some (.ref e)]) (st' := []) (h' := mx_wi h2 b 1 (mx_i h2 e 1)) (P := ((mxT e).1 = 3 ∧ mxG h2) ∧ ((mxT b).1 = 3 ∧ mxG h2) ∧ True) 4 rfl rfl ⟨⟨(congrArg Prod.fst (sL_0 hVe)), G4⟩, ⟨(congrArg Prod.fst (sL_0 hVb)), G4⟩, trivial⟩ ?_
  obtain ⟨h5, e6⟩ : ∃ z9, z9 = mx_wi h2 b 1 (mx_i h2 e 1) := ⟨_, rfl⟩
  rw [← e6]
  have H := H h5 e6
  have G7 : mxG h5 := e6 ▸ mxG_wi G4
  refine wp_steps (i' := 12) (ls' := [some (.ref b), some (.ref e)]) (st' := []) (h' := mx_wi h5 b 2 (mx_i h5 e 2)) (P := ((mxT e).1 = 3 ∧ mxG h5) ∧ ((mxT b).1 = 3 ∧ mxG h5) ∧ True) 4 rfl rfl ⟨⟨(congrArg Prod.fst (sL_0 hVe)), G7⟩, ⟨(congrArg Prod.fst (sL_0 hVb)), G7⟩, trivial⟩ ?_
  obtain ⟨h8, e9⟩ : ∃ z9, z9 = mx_wi h5 b 2 (mx_i h5 e 2) := ⟨_, rfl⟩
  rw [← e9]
  have H := H h8 e9
  have G10 : mxG h8 := e9 ▸ mxG_wi G7
  refine wp_steps (i' := 20) (ls' := [some (.ref b), some (.ref e)]) (st' := []) (h' := mx_wrow h8 (b + 1) (va_cpy (mx_i h8 (e + 1)) (mx_i h8 (b + 1)) 0 0 12)) (P := ((mxT e).1 = 3 ∧ mxG h8) ∧ ((mxT b).1 = 3 ∧ mxG h8) ∧ ((((mxT (e + 1)).1 = 50 ∧ (mxT (b + 1)).1 = 50) ∧ mxG h8) ∧ ¬ (0 : Int32) < 0 ∧ ¬ (0 : Int32) < 0 ∧ ¬ (12 : Int32) < 0 ∧ 0 + 12 ≤ (mxT (e + 1)).2 ∧ 0 + 12 ≤ (mxT (b + 1)).2 ∧ (([] : List Value).map mx_cat).sum ≤ 8) ∧ True) 8 rfl rfl ⟨⟨(congrArg Prod.fst (sL_0 hVe)), G10⟩, ⟨(congrArg Prod.fst (sL_0 hVb)), G10⟩, (cC (sL_1 hVe) (sL_1 hVb) G10 rfl), trivial⟩ ?_
  obtain ⟨h11, e12⟩ : ∃ z9, z9 = mx_wrow h8 (b + 1) (va_cpy (mx_i h8 (e + 1)) (mx_i h8 (b + 1)) 0 0 12) := ⟨_, rfl⟩
  rw [← e12]
  have H := H h11 e12
  have G13 : mxG h11 := e12 ▸ mxG_wrow G10
  refine wp_steps (i' := 28) (ls' := [some (.ref b), some (.ref e)]) (st' := []) (h' := mx_wrow h11 (b + 2) (va_cpy (mx_i h11 (e + 2)) (mx_i h11 (b + 2)) 0 0 12)) (P := ((mxT e).1 = 3 ∧ mxG h11) ∧ ((mxT b).1 = 3 ∧ mxG h11) ∧ ((((mxT (e + 2)).1 = 50 ∧ (mxT (b + 2)).1 = 50) ∧ mxG h11) ∧ ¬ (0 : Int32) < 0 ∧ ¬ (0 : Int32) < 0 ∧ ¬ (12 : Int32) < 0 ∧ 0 + 12 ≤ (mxT (e + 2)).2 ∧ 0 + 12 ≤ (mxT (b + 2)).2 ∧ (([] : List Value).map mx_cat).sum ≤ 8) ∧ True) 8 rfl rfl ⟨⟨(congrArg Prod.fst (sL_0 hVe)), G13⟩, ⟨(congrArg Prod.fst (sL_0 hVb)), G13⟩, (cC (sL_2 hVe) (sL_2 hVb) G13 rfl), trivial⟩ ?_
  obtain ⟨h14, e15⟩ : ∃ z9, z9 = mx_wrow h11 (b + 2) (va_cpy (mx_i h11 (e + 2)) (mx_i h11 (b + 2)) 0 0 12) := ⟨_, rfl⟩
  rw [← e15]
  have H := H h14 e15
  have G16 : mxG h14 := e15 ▸ mxG_wrow G13
  refine wp_steps (i' := 36) (ls' := [some (.ref b), some (.ref e)]) (st' := []) (h' := mx_wrow h14 (b + 3) (va_cpy (mx_i h14 (e + 3)) (mx_i h14 (b + 3)) 0 0 12)) (P := ((mxT e).1 = 3 ∧ mxG h14) ∧ ((mxT b).1 = 3 ∧ mxG h14) ∧ ((((mxT (e + 3)).1 = 50 ∧ (mxT (b + 3)).1 = 50) ∧ mxG h14) ∧ ¬ (0 : Int32) < 0 ∧ ¬ (0 : Int32) < 0 ∧ ¬ (12 : Int32) < 0 ∧ 0 + 12 ≤ (mxT (e + 3)).2 ∧ 0 + 12 ≤ (mxT (b + 3)).2 ∧ (([] : List Value).map mx_cat).sum ≤ 8) ∧ True) 8 rfl rfl ⟨⟨(congrArg Prod.fst (sL_0 hVe)), G16⟩, ⟨(congrArg Prod.fst (sL_0 hVb)), G16⟩, (cC (sL_3 hVe) (sL_3 hVb) G16 rfl), trivial⟩ ?_
  obtain ⟨h17, e18⟩ : ∃ z9, z9 = mx_wrow h14 (b + 3) (va_cpy (mx_i h14 (e + 3)) (mx_i h14 (b + 3)) 0 0 12) := ⟨_, rfl⟩
  rw [← e18]
  have H := H h17 e18
  have G19 : mxG h17 := e18 ▸ mxG_wrow G16
  refine wp_steps (i' := 45) (ls' := [some (.ref b), some (.ref e)]) (st' := [.int (nI (mxT (b + 4)).2), .int 0, .ref (b + 4), .int 0, .ref (e + 4)]) (h' := h17) (P := ((mxT e).1 = 3 ∧ mxG h17) ∧ ((mxT b).1 = 3 ∧ mxG h17) ∧ ((mxT b).1 = 3 ∧ mxG h17) ∧ (50 ≤ (mxT (b + 4)).1 ∧ mxG h17) ∧ True) 9 rfl rfl ⟨⟨(congrArg Prod.fst (sL_0 hVe)), G19⟩, ⟨(congrArg Prod.fst (sL_0 hVb)), G19⟩, ⟨(congrArg Prod.fst (sL_0 hVb)), G19⟩, (cL (sL_4 hVb) (by decide) G19), trivial⟩ ?_
  rw [congrArg Prod.snd (sL_4 hVb)]
  change mx_wp d 20 45 [some (.ref b), some (.ref e)] [.int 400, .int 0, .ref (b + 4), .int 0, .ref (e + 4)] h17 Q
  refine wp_steps (i' := 46) (ls' := [some (.ref b), some (.ref e)]) (st' := []) (h' := mx_wrow h17 (b + 4) (va_cpy (mx_i h17 (e + 4)) (mx_i h17 (b + 4)) 0 0 400)) (P := ((((mxT (e + 4)).1 = 50 ∧ (mxT (b + 4)).1 = 50) ∧ mxG h17) ∧ ¬ (0 : Int32) < 0 ∧ ¬ (0 : Int32) < 0 ∧ ¬ (400 : Int32) < 0 ∧ 0 + 400 ≤ (mxT (e + 4)).2 ∧ 0 + 400 ≤ (mxT (b + 4)).2 ∧ (([] : List Value).map mx_cat).sum ≤ 8) ∧ True) 1 rfl rfl ⟨(cC (sL_4 hVe) (sL_4 hVb) G19 rfl), trivial⟩ ?_
  obtain ⟨h20, e21⟩ : ∃ z9, z9 = mx_wrow h17 (b + 4) (va_cpy (mx_i h17 (e + 4)) (mx_i h17 (b + 4)) 0 0 400) := ⟨_, rfl⟩
  rw [← e21]
  have H := H h20 e21
  have G22 : mxG h20 := e21 ▸ mxG_wrow G19
  exact wp_end (o := .inl none) (h' := h20) (P := True) rfl rfl trivial H
/-! 21: StoneBacks$Law.tellAnew()V -/
set_option maxRecDepth 8000 in
theorem tr_21_0 {d : Nat} {h : mxH} {Q : mxO → mxH → Prop} {b : Nat} (G : mxG h) (hVb : (mxT b).1 = 3) (H : (∀ h1, h1 = mx_wi h b 0 1 → (∀ h4, h4 = mx_wi h1 b 1 0 → (∀ h7, h7 = mx_wi h4 b 2 0 → Q (.inl none) h7)))) : mx_wp d 21 0 (mx_fr 21 [.ref b]) [] h Q := by
  show mx_wp d 21 0 [some (.ref b)] [] h Q
  refine wp_steps (i' := 3) (ls' := [some (.ref b)]) (st' := []) (h' := mx_wi h b 0 1) (P := (((mxT b).1 = 3 ∧ mxG h) ∧ ((1 : Int32) = 0 ∨ (1 : Int32) = 1)) ∧ True) 3 rfl rfl ⟨⟨⟨(congrArg Prod.fst (sL_0 hVb)), G⟩, Or.inr rfl⟩, trivial⟩ ?_
  obtain ⟨h1, e2⟩ : ∃ z9, z9 = mx_wi h b 0 1 := ⟨_, rfl⟩
  rw [← e2]
  have H := H h1 e2
  have G3 : mxG h1 := e2 ▸ mxG_wi G
  refine wp_steps (i' := 6) (ls' := [some (.ref b)]) (st' := []) (h' := mx_wi h1 b 1 0) (P := ((mxT b).1 = 3 ∧ mxG h1) ∧ True) 3 rfl rfl ⟨⟨(congrArg Prod.fst (sL_0 hVb)), G3⟩, trivial⟩ ?_
  obtain ⟨h4, e5⟩ : ∃ z9, z9 = mx_wi h1 b 1 0 := ⟨_, rfl⟩
  rw [← e5]
  have H := H h4 e5
  have G6 : mxG h4 := e5 ▸ mxG_wi G3
  refine wp_steps (i' := 9) (ls' := [some (.ref b)]) (st' := []) (h' := mx_wi h4 b 2 0) (P := ((mxT b).1 = 3 ∧ mxG h4) ∧ True) 3 rfl rfl ⟨⟨(congrArg Prod.fst (sL_0 hVb)), G6⟩, trivial⟩ ?_
  obtain ⟨h7, e8⟩ : ∃ z9, z9 = mx_wi h4 b 2 0 := ⟨_, rfl⟩
  rw [← e8]
  have H := H h7 e8
  have G9 : mxG h7 := e8 ▸ mxG_wi G6
  exact wp_end (o := .inl none) (h' := h7) (P := True) rfl rfl trivial H
def W_21 (h : mxH) (b : Nat) : mxH := (mx_wi (mx_wi (mx_wi h b 0 1) b 1 0) b 2 0)
theorem KW_21 {h : mxH} {b : Nat} : mxK h (W_21 h b) := by
  unfold W_21
  repeat' (first | with_reducible exact mxK_rfl | with_reducible exact mxK_wi | with_reducible exact mxK_wrow | with_reducible refine mxK_ite ?_ ?_ | with_reducible refine mxK_tr ?_ mxK_wi | with_reducible refine mxK_tr ?_ mxK_wrow)
theorem sp_21 {d : Nat} {h : mxH} {Q : mxO → mxH → Prop} {b : Nat} (G : mxG h) (hVb : (mxT b).1 = 3) (k : Q (.inl none) (W_21 h b)) : mx_wp d 21 0 (mx_fr 21 [.ref b]) [] h Q := by
  unfold W_21 at k
  refine tr_21_0 G hVb ?_
  intro h1 eh1
  subst eh1
  intro h4 eh4
  subst eh4
  intro h7 eh7
  subst eh7
  exact k
/-! 22: StoneBacks$Law.openLine(II)V -/
set_option maxRecDepth 8000 in
theorem tr_22_0 {d : Nat} {h : mxH} {Q : mxO → mxH → Prop} {b : Nat} {i1 : Int32} {i2 : Int32} (G : mxG h) (hVb : (mxT b).1 = 3) (H : (((mx_i h b 1) < 12 → (vp_in (mx_i h b 1) 12 ∧ (∀ h3, h3 = mx_wi h (b + 1) (mx_i h b 1).toNatClampNeg i1 → (vp_in (mx_i h3 b 1) 12 ∧ (∀ h7, h7 = mx_wi h3 (b + 2) (mx_i h3 b 1).toNatClampNeg i2 → (vp_in (mx_i h7 b 1) 12 ∧ (∀ h11, h11 = mx_wi h7 (b + 3) (mx_i h7 b 1).toNatClampNeg (mx_i h7 b 2) → (∀ h14, h14 = mx_wi h11 b 1 ((mx_i h11 b 1) + 1) → Q (.inl none) h14)))))))) ∧ (¬ (mx_i h b 1) < 12 → Q (.inl none) h))) : mx_wp d 22 0 (mx_fr 22 [.ref b, .int i1, .int i2]) [] h Q := by
  show mx_wp d 22 0 [some (.ref b), some (.int i1), some (.int i2)] [] h Q
  refine wp_steps (i' := 3) (ls' := [some (.ref b), some (.int i1), some (.int i2)]) (st' := [.int 12, .int (mx_i h b 1)]) (h' := h) (P := ((mxT b).1 = 3 ∧ mxG h) ∧ True) 3 rfl rfl ⟨⟨(congrArg Prod.fst (sL_0 hVb)), G⟩, trivial⟩ ?_
  refine wp_br (P := True) (c := 12 ≤ (mx_i h b 1)) (t := 29) (st' := []) rfl rfl trivial (fun c1 => ?_) (fun c1 => ?_)
  · have c1 := Int32.not_lt.mpr c1
    have H := H.2 c1
    exact wp_end (o := .inl none) (h' := h) (P := True) rfl rfl trivial H
  · have c1 := Int32.not_le.mp c1
    have H := H.1 c1
    obtain ⟨o2, H⟩ := H
    refine wp_steps (i' := 10) (ls' := [some (.ref b), some (.int i1), some (.int i2)]) (st' := []) (h' := mx_wi h (b + 1) (mx_i h b 1).toNatClampNeg i1) (P := ((mxT b).1 = 3 ∧ mxG h) ∧ ((mxT b).1 = 3 ∧ mxG h) ∧ (((mxT (b + 1)).1 = 50 ∧ mxG h) ∧ vp_in (mx_i h b 1) (mxT (b + 1)).2) ∧ True) 6 rfl rfl ⟨⟨(congrArg Prod.fst (sL_0 hVb)), G⟩, ⟨(congrArg Prod.fst (sL_0 hVb)), G⟩, (cA (sL_1 hVb) G o2), trivial⟩ ?_
    obtain ⟨h3, e4⟩ : ∃ z9, z9 = mx_wi h (b + 1) (mx_i h b 1).toNatClampNeg i1 := ⟨_, rfl⟩
    rw [← e4]
    have H := H h3 e4
    have G5 : mxG h3 := e4 ▸ mxG_wi G
    obtain ⟨o6, H⟩ := H
    refine wp_steps (i' := 16) (ls' := [some (.ref b), some (.int i1), some (.int i2)]) (st' := []) (h' := mx_wi h3 (b + 2) (mx_i h3 b 1).toNatClampNeg i2) (P := ((mxT b).1 = 3 ∧ mxG h3) ∧ ((mxT b).1 = 3 ∧ mxG h3) ∧ (((mxT (b + 2)).1 = 50 ∧ mxG h3) ∧ vp_in (mx_i h3 b 1) (mxT (b + 2)).2) ∧ True) 6 rfl rfl ⟨⟨(congrArg Prod.fst (sL_0 hVb)), G5⟩, ⟨(congrArg Prod.fst (sL_0 hVb)), G5⟩, (cA (sL_2 hVb) G5 o6), trivial⟩ ?_
    obtain ⟨h7, e8⟩ : ∃ z9, z9 = mx_wi h3 (b + 2) (mx_i h3 b 1).toNatClampNeg i2 := ⟨_, rfl⟩
    rw [← e8]
    have H := H h7 e8
    have G9 : mxG h7 := e8 ▸ mxG_wi G5
    obtain ⟨o10, H⟩ := H
    refine wp_steps (i' := 23) (ls' := [some (.ref b), some (.int i1), some (.int i2)]) (st' := []) (h' := mx_wi h7 (b + 3) (mx_i h7 b 1).toNatClampNeg (mx_i h7 b 2)) (P := ((mxT b).1 = 3 ∧ mxG h7) ∧ ((mxT b).1 = 3 ∧ mxG h7) ∧ ((mxT b).1 = 3 ∧ mxG h7) ∧ (((mxT (b + 3)).1 = 50 ∧ mxG h7) ∧ vp_in (mx_i h7 b 1) (mxT (b + 3)).2) ∧ True) 7 rfl rfl ⟨⟨(congrArg Prod.fst (sL_0 hVb)), G9⟩, ⟨(congrArg Prod.fst (sL_0 hVb)), G9⟩, ⟨(congrArg Prod.fst (sL_0 hVb)), G9⟩, (cA (sL_3 hVb) G9 o10), trivial⟩ ?_
    obtain ⟨h11, e12⟩ : ∃ z9, z9 = mx_wi h7 (b + 3) (mx_i h7 b 1).toNatClampNeg (mx_i h7 b 2) := ⟨_, rfl⟩
    rw [← e12]
    have H := H h11 e12
    have G13 : mxG h11 := e12 ▸ mxG_wi G9
    refine wp_steps (i' := 29) (ls' := [some (.ref b), some (.int i1), some (.int i2)]) (st' := []) (h' := mx_wi h11 b 1 ((mx_i h11 b 1) + 1)) (P := ((mxT b).1 = 3 ∧ mxG h11) ∧ ((mxT b).1 = 3 ∧ mxG h11) ∧ True) 6 rfl rfl ⟨⟨(congrArg Prod.fst (sL_0 hVb)), G13⟩, ⟨(congrArg Prod.fst (sL_0 hVb)), G13⟩, trivial⟩ ?_
    obtain ⟨h14, e15⟩ : ∃ z9, z9 = mx_wi h11 b 1 ((mx_i h11 b 1) + 1) := ⟨_, rfl⟩
    rw [← e15]
    have H := H h14 e15
    have G16 : mxG h14 := e15 ▸ mxG_wi G13
    exact wp_end (o := .inl none) (h' := h14) (P := True) rfl rfl trivial H
def W_22 (h : mxH) (b : Nat) (i1 : Int32) (i2 : Int32) : mxH := (if (mx_i h b 1) < 12 then (mx_wi (mx_wi (mx_wi (mx_wi h (b + 1) (mx_i h b 1).toNatClampNeg i1) (b + 2) (mx_i (mx_wi h (b + 1) (mx_i h b 1).toNatClampNeg i1) b 1).toNatClampNeg i2) (b + 3) (mx_i (mx_wi (mx_wi h (b + 1) (mx_i h b 1).toNatClampNeg i1) (b + 2) (mx_i (mx_wi h (b + 1) (mx_i h b 1).toNatClampNeg i1) b 1).toNatClampNeg i2) b 1).toNatClampNeg (mx_i (mx_wi (mx_wi h (b + 1) (mx_i h b 1).toNatClampNeg i1) (b + 2) (mx_i (mx_wi h (b + 1) (mx_i h b 1).toNatClampNeg i1) b 1).toNatClampNeg i2) b 2)) b 1 ((mx_i (mx_wi (mx_wi (mx_wi h (b + 1) (mx_i h b 1).toNatClampNeg i1) (b + 2) (mx_i (mx_wi h (b + 1) (mx_i h b 1).toNatClampNeg i1) b 1).toNatClampNeg i2) (b + 3) (mx_i (mx_wi (mx_wi h (b + 1) (mx_i h b 1).toNatClampNeg i1) (b + 2) (mx_i (mx_wi h (b + 1) (mx_i h b 1).toNatClampNeg i1) b 1).toNatClampNeg i2) b 1).toNatClampNeg (mx_i (mx_wi (mx_wi h (b + 1) (mx_i h b 1).toNatClampNeg i1) (b + 2) (mx_i (mx_wi h (b + 1) (mx_i h b 1).toNatClampNeg i1) b 1).toNatClampNeg i2) b 2)) b 1) + 1)) else h)
theorem KW_22 {h : mxH} {b : Nat} {i1 : Int32} {i2 : Int32} : mxK h (W_22 h b i1 i2) := by
  unfold W_22
  repeat' (first | with_reducible exact mxK_rfl | with_reducible exact mxK_wi | with_reducible exact mxK_wrow | with_reducible refine mxK_ite ?_ ?_ | with_reducible refine mxK_tr ?_ mxK_wi | with_reducible refine mxK_tr ?_ mxK_wrow)
theorem sp_22 {d : Nat} {h : mxH} {Q : mxO → mxH → Prop} {b : Nat} {i1 : Int32} {i2 : Int32} (G : mxG h) (hVb : (mxT b).1 = 3) (x0 : (((mx_i h b 1) < 12 → (vp_in (mx_i h b 1) 12 ∧ (vp_in (mx_i (mx_wi h (b + 1) (mx_i h b 1).toNatClampNeg i1) b 1) 12 ∧ (vp_in (mx_i (mx_wi (mx_wi h (b + 1) (mx_i h b 1).toNatClampNeg i1) (b + 2) (mx_i (mx_wi h (b + 1) (mx_i h b 1).toNatClampNeg i1) b 1).toNatClampNeg i2) b 1) 12 ∧ True)))) ∧ (¬ (mx_i h b 1) < 12 → True))) (k : Q (.inl none) (W_22 h b i1 i2)) : mx_wp d 22 0 (mx_fr 22 [.ref b, .int i1, .int i2]) [] h Q := by
  unfold W_22 at k
  have hob : (((mx_i h b 1) < 12 → (vp_in (mx_i h b 1) 12 ∧ (vp_in (mx_i (mx_wi h (b + 1) (mx_i h b 1).toNatClampNeg i1) b 1) 12 ∧ (vp_in (mx_i (mx_wi (mx_wi h (b + 1) (mx_i h b 1).toNatClampNeg i1) (b + 2) (mx_i (mx_wi h (b + 1) (mx_i h b 1).toNatClampNeg i1) b 1).toNatClampNeg i2) b 1) 12 ∧ True)))) ∧ (¬ (mx_i h b 1) < 12 → True)) := x0
  refine tr_22_0 G hVb ?_
  refine ⟨fun c9 => ?_, fun c9 => ?_⟩
  · try simp only [if_pos c9] at k
    have hob := hob.1 c9
    obtain ⟨q0, hob⟩ := hob
    refine ⟨q0, ?_⟩
    intro h3 eh3
    subst eh3
    obtain ⟨q0, hob⟩ := hob
    refine ⟨q0, ?_⟩
    intro h7 eh7
    subst eh7
    obtain ⟨q0, hob⟩ := hob
    refine ⟨q0, ?_⟩
    intro h11 eh11
    subst eh11
    intro h14 eh14
    subst eh14
    exact k
  · try simp only [if_neg c9] at k
    have hob := hob.2 c9
    exact k
/-! 23: StoneBacks$Law.addCode(I)V -/
set_option maxRecDepth 8000 in
theorem tr_23_0 {d : Nat} {h : mxH} {Q : mxO → mxH → Prop} {b : Nat} {i1 : Int32} (G : mxG h) (hVb : (mxT b).1 = 3) (H : (((mx_i h b 2) < 400 → (vp_in (mx_i h b 2) 400 ∧ (∀ h3, h3 = mx_wi h (b + 4) (mx_i h b 2).toNatClampNeg i1 → (∀ h6, h6 = mx_wi h3 b 2 ((mx_i h3 b 2) + 1) → Q (.inl none) h6)))) ∧ (¬ (mx_i h b 2) < 400 → Q (.inl none) h))) : mx_wp d 23 0 (mx_fr 23 [.ref b, .int i1]) [] h Q := by
  show mx_wp d 23 0 [some (.ref b), some (.int i1)] [] h Q
  refine wp_steps (i' := 5) (ls' := [some (.ref b), some (.int i1)]) (st' := [.int (nI (mxT (b + 4)).2), .int (mx_i h b 2)]) (h' := h) (P := ((mxT b).1 = 3 ∧ mxG h) ∧ ((mxT b).1 = 3 ∧ mxG h) ∧ (50 ≤ (mxT (b + 4)).1 ∧ mxG h) ∧ True) 5 rfl rfl ⟨⟨(congrArg Prod.fst (sL_0 hVb)), G⟩, ⟨(congrArg Prod.fst (sL_0 hVb)), G⟩, (cL (sL_4 hVb) (by decide) G), trivial⟩ ?_
  rw [congrArg Prod.snd (sL_4 hVb)]
  change mx_wp d 23 5 [some (.ref b), some (.int i1)] [.int 400, .int (mx_i h b 2)] h Q
  refine wp_br (P := True) (c := 400 ≤ (mx_i h b 2)) (t := 18) (st' := []) rfl rfl trivial (fun c1 => ?_) (fun c1 => ?_)
  · have c1 := Int32.not_lt.mpr c1
    have H := H.2 c1
    exact wp_end (o := .inl none) (h' := h) (P := True) rfl rfl trivial H
  · have c1 := Int32.not_le.mp c1
    have H := H.1 c1
    obtain ⟨o2, H⟩ := H
    refine wp_steps (i' := 12) (ls' := [some (.ref b), some (.int i1)]) (st' := []) (h' := mx_wi h (b + 4) (mx_i h b 2).toNatClampNeg i1) (P := ((mxT b).1 = 3 ∧ mxG h) ∧ ((mxT b).1 = 3 ∧ mxG h) ∧ (((mxT (b + 4)).1 = 50 ∧ mxG h) ∧ vp_in (mx_i h b 2) (mxT (b + 4)).2) ∧ True) 6 rfl rfl ⟨⟨(congrArg Prod.fst (sL_0 hVb)), G⟩, ⟨(congrArg Prod.fst (sL_0 hVb)), G⟩, (cA (sL_4 hVb) G o2), trivial⟩ ?_
    obtain ⟨h3, e4⟩ : ∃ z9, z9 = mx_wi h (b + 4) (mx_i h b 2).toNatClampNeg i1 := ⟨_, rfl⟩
    rw [← e4]
    have H := H h3 e4
    have G5 : mxG h3 := e4 ▸ mxG_wi G
    refine wp_steps (i' := 18) (ls' := [some (.ref b), some (.int i1)]) (st' := []) (h' := mx_wi h3 b 2 ((mx_i h3 b 2) + 1)) (P := ((mxT b).1 = 3 ∧ mxG h3) ∧ ((mxT b).1 = 3 ∧ mxG h3) ∧ True) 6 rfl rfl ⟨⟨(congrArg Prod.fst (sL_0 hVb)), G5⟩, ⟨(congrArg Prod.fst (sL_0 hVb)), G5⟩, trivial⟩ ?_
    obtain ⟨h6, e7⟩ : ∃ z9, z9 = mx_wi h3 b 2 ((mx_i h3 b 2) + 1) := ⟨_, rfl⟩
    rw [← e7]
    have H := H h6 e7
    have G8 : mxG h6 := e7 ▸ mxG_wi G5
    exact wp_end (o := .inl none) (h' := h6) (P := True) rfl rfl trivial H
def W_23 (h : mxH) (b : Nat) (i1 : Int32) : mxH := (if (mx_i h b 2) < 400 then (mx_wi (mx_wi h (b + 4) (mx_i h b 2).toNatClampNeg i1) b 2 ((mx_i (mx_wi h (b + 4) (mx_i h b 2).toNatClampNeg i1) b 2) + 1)) else h)
theorem KW_23 {h : mxH} {b : Nat} {i1 : Int32} : mxK h (W_23 h b i1) := by
  unfold W_23
  repeat' (first | with_reducible exact mxK_rfl | with_reducible exact mxK_wi | with_reducible exact mxK_wrow | with_reducible refine mxK_ite ?_ ?_ | with_reducible refine mxK_tr ?_ mxK_wi | with_reducible refine mxK_tr ?_ mxK_wrow)
theorem sp_23 {d : Nat} {h : mxH} {Q : mxO → mxH → Prop} {b : Nat} {i1 : Int32} (G : mxG h) (hVb : (mxT b).1 = 3) (x0 : (((mx_i h b 2) < 400 → (vp_in (mx_i h b 2) 400 ∧ True)) ∧ (¬ (mx_i h b 2) < 400 → True))) (k : Q (.inl none) (W_23 h b i1)) : mx_wp d 23 0 (mx_fr 23 [.ref b, .int i1]) [] h Q := by
  unfold W_23 at k
  have hob : (((mx_i h b 2) < 400 → (vp_in (mx_i h b 2) 400 ∧ True)) ∧ (¬ (mx_i h b 2) < 400 → True)) := x0
  refine tr_23_0 G hVb ?_
  refine ⟨fun c9 => ?_, fun c9 => ?_⟩
  · try simp only [if_pos c9] at k
    have hob := hob.1 c9
    obtain ⟨q0, hob⟩ := hob
    refine ⟨q0, ?_⟩
    intro h3 eh3
    subst eh3
    intro h6 eh6
    subst eh6
    exact k
  · try simp only [if_neg c9] at k
    have hob := hob.2 c9
    exact k
/-! 25: StoneBacks$Law.amountWithoutText(III)I -/
set_option maxRecDepth 8000 in
theorem tr_25_0 {d : Nat} {h : mxH} {Q : mxO → mxH → Prop} {i0 : Int32} {i1 : Int32} {i2 : Int32} (G : mxG h)  (H : ((i0 = 0 → Q (.inl (some (.int (i1 / 4)))) h) ∧ (¬ i0 = 0 → (∀ (v2 : Int32), v2 = ((if i0 = 1 then (if 0 < (10 - (i1 / 4)) then (10 - (i1 / 4)) else 0) else (if 0 < (i1 - i2) then (i1 - i2) else 0)) : Int32) → Q (.inl (some (.int v2))) h)))) : mx_wp d 25 0 (mx_fr 25 [.int i0, .int i1, .int i2]) [] h Q := by
  show mx_wp d 25 0 [some (.int i0), some (.int i1), some (.int i2)] [] h Q
  refine wp_steps (i' := 1) (ls' := [some (.int i0), some (.int i1), some (.int i2)]) (st' := [.int i0]) (h' := h) (P := True) 1 rfl rfl trivial ?_
  refine wp_br (P := True) (c := ¬ i0 = 0) (t := 6) (st' := []) rfl rfl trivial (fun c1 => ?_) (fun c1 => ?_)
  · skip
    have H := H.2 c1
    refine wp_steps (i' := 8) (ls' := [some (.int i0), some (.int i1), some (.int i2)]) (st' := [.int 1, .int i0]) (h' := h) (P := True) 2 rfl rfl trivial ?_
    have J : ∀ (v2 : Int32) (ev2 : v2 = ((if i0 = 1 then (if 0 < (10 - (i1 / 4)) then (10 - (i1 / 4)) else 0) else (if 0 < (i1 - i2) then (i1 - i2) else 0)) : Int32)), mx_wp d 25 22 [some (.int i0), some (.int i1), some (.int i2)] [.int v2] h Q := by
      intro v2 ev2
      have H := H v2 ev2
      exact wp_end (o := .inl (some (.int v2))) (h' := h) (P := True) rfl rfl trivial H
    refine wp_br (P := True) (c := ¬ i0 = 1) (t := 17) (st' := []) rfl rfl trivial (fun c3 => ?_) (fun c3 => ?_)
    · skip
      refine wp_steps (i' := 22) (ls' := [some (.int i0), some (.int i1), some (.int i2)]) (st' := [.int (if 0 < (i1 - i2) then (i1 - i2) else 0)]) (h' := h) (P := ((([] : List Value).map mx_cat).sum ≤ 8) ∧ True) 5 rfl rfl ⟨(Nat.le_of_ble_eq_true rfl), trivial⟩ ?_
      exact J _ (by rw [if_neg c3])
    · have c3 := Decidable.of_not_not c3
      refine wp_steps (i' := 16) (ls' := [some (.int i0), some (.int i1), some (.int i2)]) (st' := [.int (if 0 < (10 - (i1 / 4)) then (10 - (i1 / 4)) else 0)]) (h' := h) (P := (¬ (4 : Int32) = 0) ∧ ((([] : List Value).map mx_cat).sum ≤ 8) ∧ True) 7 rfl rfl ⟨(by decide), (Nat.le_of_ble_eq_true rfl), trivial⟩ ?_
      refine wp_J (j := 22) (st' := [.int (if 0 < (10 - (i1 / 4)) then (10 - (i1 / 4)) else 0)]) rfl rfl ?_
      exact J _ (by rw [if_pos c3])
  · have c1 := Decidable.of_not_not c1
    have H := H.1 c1
    refine wp_steps (i' := 5) (ls' := [some (.int i0), some (.int i1), some (.int i2)]) (st' := [.int (i1 / 4)]) (h' := h) (P := (¬ (4 : Int32) = 0) ∧ True) 3 rfl rfl ⟨(by decide), trivial⟩ ?_
    exact wp_end (o := .inl (some (.int (i1 / 4)))) (h' := h) (P := True) rfl rfl trivial H
def V_25 (h : mxH) (i0 : Int32) (i1 : Int32) (i2 : Int32) : Int32 := (if i0 = 0 then (i1 / 4) else ((if i0 = 1 then (if 0 < (10 - (i1 / 4)) then (10 - (i1 / 4)) else 0) else (if 0 < (i1 - i2) then (i1 - i2) else 0)) : Int32))
theorem sp_25 {d : Nat} {h : mxH} {Q : mxO → mxH → Prop} {i0 : Int32} {i1 : Int32} {i2 : Int32} (G : mxG h)  (k : Q (.inl (some (.int (V_25 h i0 i1 i2)))) h) : mx_wp d 25 0 (mx_fr 25 [.int i0, .int i1, .int i2]) [] h Q := by
  unfold V_25 at k
  refine tr_25_0 G  ?_
  refine ⟨fun c9 => ?_, fun c9 => ?_⟩
  · try simp only [if_pos c9] at k
    exact k
  · try simp only [if_neg c9] at k
    intro v2 ev2
    subst ev2
    exact k
/-! 26: StoneBacks$Law.fillValues(LStoneBacks$Valley;I)V -/
set_option maxRecDepth 8000 in
theorem tr_26_0 {d : Nat} {h : mxH} {Q : mxO → mxH → Prop} {b : Nat} {a : Nat} {i2 : Int32} (G : mxG h) (hVb : (mxT b).1 = 3) (hVa : (mxT a).1 = 9) (H : (vp_in i2 6 ∧ (cB (mx_i h (a + 7) 0) 10 ∧ (∀ h3, h3 = mx_wi h (b + 5) 0 i2 → (∀ h6, h6 = mx_wi h3 (b + 5) 1 (V_77 h a i2) → (∀ h9, h9 = mx_wi h6 (b + 5) 2 (mx_i h6 (a + 3) i2.toNatClampNeg) → (∀ h12, h12 = mx_wi h9 (b + 5) 3 (mx_i h (a + 4) i2.toNatClampNeg) → (vp_in (mx_i h (a + 4) i2.toNatClampNeg) 12 ∧ (∀ h16, h16 = mx_wi h12 (b + 5) 4 (mx_i h12 (a + 15) (mx_i h (a + 4) i2.toNatClampNeg).toNatClampNeg) → (∀ h19, h19 = mx_wi h16 (b + 5) 5 (mx_i h16 (a + 6) i2.toNatClampNeg) → (∀ h22, h22 = mx_wi h19 (b + 5) 6 ((mx_i h19 a 6) - (mx_i h19 a 6) / 24 * 24) → (∀ (v25 : Int32), v25 = ((if (mx_i h (a + 4) i2.toNatClampNeg) = (mx_i h22 (a + 5) i2.toNatClampNeg) then 1 else 0) : Int32) → (∀ h26, h26 = mx_wi h22 (b + 5) 7 v25 → (∀ (v29 : Int32), v29 = ((if (V_77 h a i2) = 0 then 1 else 0) : Int32) → (∀ h30, h30 = mx_wi h26 (b + 5) 8 v29 → Q (.inl none) h30))))))))))))))) : mx_wp (d + 1) 26 0 (mx_fr 26 [.ref b, .ref a, .int i2]) [] h Q := by
  show mx_wp (d + 1) 26 0 [some (.ref b), some (.ref a), some (.int i2), none, none] [] h Q
  obtain ⟨o1, H⟩ := H
  refine wp_steps (i' := 9) (ls' := [some (.ref b), some (.ref a), some (.int i2), some (.int (mx_i h (a + 4) i2.toNatClampNeg)), none]) (st' := [.int i2, .ref (a + 7)]) (h' := h) (P := ((mxT a).1 = 9 ∧ mxG h) ∧ ((mxT (a + 1)).1 = 5 ∧ mxG h) ∧ (((mxT (a + 4)).1 = 50 ∧ mxG h) ∧ vp_in i2 (mxT (a + 4)).2) ∧ ((mxT a).1 = 9 ∧ mxG h) ∧ True) 9 rfl rfl ⟨⟨(congrArg Prod.fst (sV_0 hVa)), G⟩, ⟨(congrArg Prod.fst (sV_1 hVa)), G⟩, (cA (sV_4 hVa) G o1), ⟨(congrArg Prod.fst (sV_0 hVa)), G⟩, trivial⟩ ?_
  obtain ⟨o2, H⟩ := H
  refine wp_call (b := false) (y' := 77) (as := [.ref (a + 7), .int i2]) (rest := []) (P := ((mxT (a + 7)).1 = mxRc 77 ∧ mxG h)) rfl (by with_unfolding_all rfl) ⟨(congrArg Prod.fst (sV_7 hVa)), G⟩ (Nat.le_of_ble_eq_true rfl) (sp_77 G hVa o2 ?_)
  show mx_wp (d + 1) 26 10 [some (.ref b), some (.ref a), some (.int i2), some (.int (mx_i h (a + 4) i2.toNatClampNeg)), none] [.int (V_77 h a i2)] h Q
  refine wp_steps (i' := 16) (ls' := [some (.ref b), some (.ref a), some (.int i2), some (.int (mx_i h (a + 4) i2.toNatClampNeg)), some (.int (V_77 h a i2))]) (st' := []) (h' := mx_wi h (b + 5) 0 i2) (P := ((mxT b).1 = 3 ∧ mxG h) ∧ (((mxT (b + 5)).1 = 50 ∧ mxG h) ∧ vp_in 0 (mxT (b + 5)).2) ∧ True) 6 rfl rfl ⟨⟨(congrArg Prod.fst (sL_0 hVb)), G⟩, (cA (sL_5 hVb) G (vpl rfl)), trivial⟩ ?_
  obtain ⟨h3, e4⟩ : ∃ z9, z9 = mx_wi h (b + 5) 0 i2 := ⟨_, rfl⟩
  rw [← e4]
  have H := H h3 e4
  have G5 : mxG h3 := e4 ▸ mxG_wi G
  refine wp_steps (i' := 21) (ls' := [some (.ref b), some (.ref a), some (.int i2), some (.int (mx_i h (a + 4) i2.toNatClampNeg)), some (.int (V_77 h a i2))]) (st' := []) (h' := mx_wi h3 (b + 5) 1 (V_77 h a i2)) (P := ((mxT b).1 = 3 ∧ mxG h3) ∧ (((mxT (b + 5)).1 = 50 ∧ mxG h3) ∧ vp_in 1 (mxT (b + 5)).2) ∧ True) 5 rfl rfl ⟨⟨(congrArg Prod.fst (sL_0 hVb)), G5⟩, (cA (sL_5 hVb) G5 (vpl rfl)), trivial⟩ ?_
  obtain ⟨h6, e7⟩ : ∃ z9, z9 = mx_wi h3 (b + 5) 1 (V_77 h a i2) := ⟨_, rfl⟩
  rw [← e7]
  have H := H h6 e7
  have G8 : mxG h6 := e7 ▸ mxG_wi G5
  refine wp_steps (i' := 30) (ls' := [some (.ref b), some (.ref a), some (.int i2), some (.int (mx_i h (a + 4) i2.toNatClampNeg)), some (.int (V_77 h a i2))]) (st' := []) (h' := mx_wi h6 (b + 5) 2 (mx_i h6 (a + 3) i2.toNatClampNeg)) (P := ((mxT b).1 = 3 ∧ mxG h6) ∧ ((mxT a).1 = 9 ∧ mxG h6) ∧ ((mxT (a + 1)).1 = 5 ∧ mxG h6) ∧ (((mxT (a + 3)).1 = 50 ∧ mxG h6) ∧ vp_in i2 (mxT (a + 3)).2) ∧ (((mxT (b + 5)).1 = 50 ∧ mxG h6) ∧ vp_in 2 (mxT (b + 5)).2) ∧ True) 9 rfl rfl ⟨⟨(congrArg Prod.fst (sL_0 hVb)), G8⟩, ⟨(congrArg Prod.fst (sV_0 hVa)), G8⟩, ⟨(congrArg Prod.fst (sV_1 hVa)), G8⟩, (cA (sV_3 hVa) G8 o1), (cA (sL_5 hVb) G8 (vpl rfl)), trivial⟩ ?_
  obtain ⟨h9, e10⟩ : ∃ z9, z9 = mx_wi h6 (b + 5) 2 (mx_i h6 (a + 3) i2.toNatClampNeg) := ⟨_, rfl⟩
  rw [← e10]
  have H := H h9 e10
  have G11 : mxG h9 := e10 ▸ mxG_wi G8
  refine wp_steps (i' := 35) (ls' := [some (.ref b), some (.ref a), some (.int i2), some (.int (mx_i h (a + 4) i2.toNatClampNeg)), some (.int (V_77 h a i2))]) (st' := []) (h' := mx_wi h9 (b + 5) 3 (mx_i h (a + 4) i2.toNatClampNeg)) (P := ((mxT b).1 = 3 ∧ mxG h9) ∧ (((mxT (b + 5)).1 = 50 ∧ mxG h9) ∧ vp_in 3 (mxT (b + 5)).2) ∧ True) 5 rfl rfl ⟨⟨(congrArg Prod.fst (sL_0 hVb)), G11⟩, (cA (sL_5 hVb) G11 (vpl rfl)), trivial⟩ ?_
  obtain ⟨h12, e13⟩ : ∃ z9, z9 = mx_wi h9 (b + 5) 3 (mx_i h (a + 4) i2.toNatClampNeg) := ⟨_, rfl⟩
  rw [← e13]
  have H := H h12 e13
  have G14 : mxG h12 := e13 ▸ mxG_wi G11
  obtain ⟨o15, H⟩ := H
  refine wp_steps (i' := 43) (ls' := [some (.ref b), some (.ref a), some (.int i2), some (.int (mx_i h (a + 4) i2.toNatClampNeg)), some (.int (V_77 h a i2))]) (st' := []) (h' := mx_wi h12 (b + 5) 4 (mx_i h12 (a + 15) (mx_i h (a + 4) i2.toNatClampNeg).toNatClampNeg)) (P := ((mxT b).1 = 3 ∧ mxG h12) ∧ ((mxT a).1 = 9 ∧ mxG h12) ∧ (((mxT (a + 15)).1 = 50 ∧ mxG h12) ∧ vp_in (mx_i h (a + 4) i2.toNatClampNeg) (mxT (a + 15)).2) ∧ (((mxT (b + 5)).1 = 50 ∧ mxG h12) ∧ vp_in 4 (mxT (b + 5)).2) ∧ True) 8 rfl rfl ⟨⟨(congrArg Prod.fst (sL_0 hVb)), G14⟩, ⟨(congrArg Prod.fst (sV_0 hVa)), G14⟩, (cA (sV_15 hVa) G14 o15), (cA (sL_5 hVb) G14 (vpl rfl)), trivial⟩ ?_
  obtain ⟨h16, e17⟩ : ∃ z9, z9 = mx_wi h12 (b + 5) 4 (mx_i h12 (a + 15) (mx_i h (a + 4) i2.toNatClampNeg).toNatClampNeg) := ⟨_, rfl⟩
  rw [← e17]
  have H := H h16 e17
  have G18 : mxG h16 := e17 ▸ mxG_wi G14
  refine wp_steps (i' := 52) (ls' := [some (.ref b), some (.ref a), some (.int i2), some (.int (mx_i h (a + 4) i2.toNatClampNeg)), some (.int (V_77 h a i2))]) (st' := []) (h' := mx_wi h16 (b + 5) 5 (mx_i h16 (a + 6) i2.toNatClampNeg)) (P := ((mxT b).1 = 3 ∧ mxG h16) ∧ ((mxT a).1 = 9 ∧ mxG h16) ∧ ((mxT (a + 1)).1 = 5 ∧ mxG h16) ∧ (((mxT (a + 6)).1 = 50 ∧ mxG h16) ∧ vp_in i2 (mxT (a + 6)).2) ∧ (((mxT (b + 5)).1 = 50 ∧ mxG h16) ∧ vp_in 5 (mxT (b + 5)).2) ∧ True) 9 rfl rfl ⟨⟨(congrArg Prod.fst (sL_0 hVb)), G18⟩, ⟨(congrArg Prod.fst (sV_0 hVa)), G18⟩, ⟨(congrArg Prod.fst (sV_1 hVa)), G18⟩, (cA (sV_6 hVa) G18 o1), (cA (sL_5 hVb) G18 (vpl rfl)), trivial⟩ ?_
  obtain ⟨h19, e20⟩ : ∃ z9, z9 = mx_wi h16 (b + 5) 5 (mx_i h16 (a + 6) i2.toNatClampNeg) := ⟨_, rfl⟩
  rw [← e20]
  have H := H h19 e20
  have G21 : mxG h19 := e20 ▸ mxG_wi G18
  refine wp_steps (i' := 60) (ls' := [some (.ref b), some (.ref a), some (.int i2), some (.int (mx_i h (a + 4) i2.toNatClampNeg)), some (.int (V_77 h a i2))]) (st' := []) (h' := mx_wi h19 (b + 5) 6 ((mx_i h19 a 6) - (mx_i h19 a 6) / 24 * 24)) (P := ((mxT b).1 = 3 ∧ mxG h19) ∧ ((mxT a).1 = 9 ∧ mxG h19) ∧ (¬ (24 : Int32) = 0) ∧ (((mxT (b + 5)).1 = 50 ∧ mxG h19) ∧ vp_in 6 (mxT (b + 5)).2) ∧ True) 8 rfl rfl ⟨⟨(congrArg Prod.fst (sL_0 hVb)), G21⟩, ⟨(congrArg Prod.fst (sV_0 hVa)), G21⟩, (by decide), (cA (sL_5 hVb) G21 (vpl rfl)), trivial⟩ ?_
  obtain ⟨h22, e23⟩ : ∃ z9, z9 = mx_wi h19 (b + 5) 6 ((mx_i h19 a 6) - (mx_i h19 a 6) / 24 * 24) := ⟨_, rfl⟩
  rw [← e23]
  have H := H h22 e23
  have G24 : mxG h22 := e23 ▸ mxG_wi G21
  refine wp_steps (i' := 69) (ls' := [some (.ref b), some (.ref a), some (.int i2), some (.int (mx_i h (a + 4) i2.toNatClampNeg)), some (.int (V_77 h a i2))]) (st' := [.int (mx_i h22 (a + 5) i2.toNatClampNeg), .int (mx_i h (a + 4) i2.toNatClampNeg), .int 7, .ref (b + 5)]) (h' := h22) (P := ((mxT b).1 = 3 ∧ mxG h22) ∧ ((mxT a).1 = 9 ∧ mxG h22) ∧ ((mxT (a + 1)).1 = 5 ∧ mxG h22) ∧ (((mxT (a + 5)).1 = 50 ∧ mxG h22) ∧ vp_in i2 (mxT (a + 5)).2) ∧ True) 9 rfl rfl ⟨⟨(congrArg Prod.fst (sL_0 hVb)), G24⟩, ⟨(congrArg Prod.fst (sV_0 hVa)), G24⟩, ⟨(congrArg Prod.fst (sV_1 hVa)), G24⟩, (cA (sV_5 hVa) G24 o1), trivial⟩ ?_
  have J : ∀ (v25 : Int32) (ev25 : v25 = ((if (mx_i h (a + 4) i2.toNatClampNeg) = (mx_i h22 (a + 5) i2.toNatClampNeg) then 1 else 0) : Int32)), mx_wp (d + 1) 26 73 [some (.ref b), some (.ref a), some (.int i2), some (.int (mx_i h (a + 4) i2.toNatClampNeg)), some (.int (V_77 h a i2))] [.int v25, .int 7, .ref (b + 5)] h22 Q := by
    intro v25 ev25
    have H := H v25 ev25
    refine wp_steps (i' := 74) (ls' := [some (.ref b), some (.ref a), some (.int i2), some (.int (mx_i h (a + 4) i2.toNatClampNeg)), some (.int (V_77 h a i2))]) (st' := []) (h' := mx_wi h22 (b + 5) 7 v25) (P := (((mxT (b + 5)).1 = 50 ∧ mxG h22) ∧ vp_in 7 (mxT (b + 5)).2) ∧ True) 1 rfl rfl ⟨(cA (sL_5 hVb) G24 (vpl rfl)), trivial⟩ ?_
    obtain ⟨h26, e27⟩ : ∃ z9, z9 = mx_wi h22 (b + 5) 7 v25 := ⟨_, rfl⟩
    rw [← e27]
    have H := H h26 e27
    have G28 : mxG h26 := e27 ▸ mxG_wi G24
    refine wp_steps (i' := 78) (ls' := [some (.ref b), some (.ref a), some (.int i2), some (.int (mx_i h (a + 4) i2.toNatClampNeg)), some (.int (V_77 h a i2))]) (st' := [.int (V_77 h a i2), .int 8, .ref (b + 5)]) (h' := h26) (P := ((mxT b).1 = 3 ∧ mxG h26) ∧ True) 4 rfl rfl ⟨⟨(congrArg Prod.fst (sL_0 hVb)), G28⟩, trivial⟩ ?_
    have J : ∀ (v29 : Int32) (ev29 : v29 = ((if (V_77 h a i2) = 0 then 1 else 0) : Int32)), mx_wp (d + 1) 26 82 [some (.ref b), some (.ref a), some (.int i2), some (.int (mx_i h (a + 4) i2.toNatClampNeg)), some (.int (V_77 h a i2))] [.int v29, .int 8, .ref (b + 5)] h26 Q := by
      intro v29 ev29
      have H := H v29 ev29
      refine wp_steps (i' := 83) (ls' := [some (.ref b), some (.ref a), some (.int i2), some (.int (mx_i h (a + 4) i2.toNatClampNeg)), some (.int (V_77 h a i2))]) (st' := []) (h' := mx_wi h26 (b + 5) 8 v29) (P := (((mxT (b + 5)).1 = 50 ∧ mxG h26) ∧ vp_in 8 (mxT (b + 5)).2) ∧ True) 1 rfl rfl ⟨(cA (sL_5 hVb) G28 (vpl rfl)), trivial⟩ ?_
      obtain ⟨h30, e31⟩ : ∃ z9, z9 = mx_wi h26 (b + 5) 8 v29 := ⟨_, rfl⟩
      rw [← e31]
      have H := H h30 e31
      have G32 : mxG h30 := e31 ▸ mxG_wi G28
      exact wp_end (o := .inl none) (h' := h30) (P := True) rfl rfl trivial H
    refine wp_br (P := True) (c := ¬ (V_77 h a i2) = 0) (t := 81) (st' := [.int 8, .ref (b + 5)]) rfl rfl trivial (fun c33 => ?_) (fun c33 => ?_)
    · skip
      refine wp_steps (i' := 82) (ls' := [some (.ref b), some (.ref a), some (.int i2), some (.int (mx_i h (a + 4) i2.toNatClampNeg)), some (.int (V_77 h a i2))]) (st' := [.int 0, .int 8, .ref (b + 5)]) (h' := h26) (P := True) 1 rfl rfl trivial ?_
      exact J _ (by rw [if_neg c33])
    · have c33 := Decidable.of_not_not c33
      refine wp_steps (i' := 80) (ls' := [some (.ref b), some (.ref a), some (.int i2), some (.int (mx_i h (a + 4) i2.toNatClampNeg)), some (.int (V_77 h a i2))]) (st' := [.int 1, .int 8, .ref (b + 5)]) (h' := h26) (P := True) 1 rfl rfl trivial ?_
      refine wp_J (j := 82) (st' := [.int 1, .int 8, .ref (b + 5)]) rfl rfl ?_
      exact J _ (by rw [if_pos c33])
  refine wp_br (P := True) (c := ¬ (mx_i h (a + 4) i2.toNatClampNeg) = (mx_i h22 (a + 5) i2.toNatClampNeg)) (t := 72) (st' := [.int 7, .ref (b + 5)]) rfl rfl trivial (fun c34 => ?_) (fun c34 => ?_)
  · skip
    refine wp_steps (i' := 73) (ls' := [some (.ref b), some (.ref a), some (.int i2), some (.int (mx_i h (a + 4) i2.toNatClampNeg)), some (.int (V_77 h a i2))]) (st' := [.int 0, .int 7, .ref (b + 5)]) (h' := h22) (P := True) 1 rfl rfl trivial ?_
    exact J _ (by rw [if_neg c34])
  · have c34 := Decidable.of_not_not c34
    refine wp_steps (i' := 71) (ls' := [some (.ref b), some (.ref a), some (.int i2), some (.int (mx_i h (a + 4) i2.toNatClampNeg)), some (.int (V_77 h a i2))]) (st' := [.int 1, .int 7, .ref (b + 5)]) (h' := h22) (P := True) 1 rfl rfl trivial ?_
    refine wp_J (j := 73) (st' := [.int 1, .int 7, .ref (b + 5)]) rfl rfl ?_
    exact J _ (by rw [if_pos c34])
def W_26 (h : mxH) (b : Nat) (a : Nat) (i2 : Int32) : mxH := (mx_wi (mx_wi (mx_wi (mx_wi (mx_wi (mx_wi (mx_wi (mx_wi (mx_wi h (b + 5) 0 i2) (b + 5) 1 (V_77 h a i2)) (b + 5) 2 (mx_i (mx_wi (mx_wi h (b + 5) 0 i2) (b + 5) 1 (V_77 h a i2)) (a + 3) i2.toNatClampNeg)) (b + 5) 3 (mx_i h (a + 4) i2.toNatClampNeg)) (b + 5) 4 (mx_i (mx_wi (mx_wi (mx_wi (mx_wi h (b + 5) 0 i2) (b + 5) 1 (V_77 h a i2)) (b + 5) 2 (mx_i (mx_wi (mx_wi h (b + 5) 0 i2) (b + 5) 1 (V_77 h a i2)) (a + 3) i2.toNatClampNeg)) (b + 5) 3 (mx_i h (a + 4) i2.toNatClampNeg)) (a + 15) (mx_i h (a + 4) i2.toNatClampNeg).toNatClampNeg)) (b + 5) 5 (mx_i (mx_wi (mx_wi (mx_wi (mx_wi (mx_wi h (b + 5) 0 i2) (b + 5) 1 (V_77 h a i2)) (b + 5) 2 (mx_i (mx_wi (mx_wi h (b + 5) 0 i2) (b + 5) 1 (V_77 h a i2)) (a + 3) i2.toNatClampNeg)) (b + 5) 3 (mx_i h (a + 4) i2.toNatClampNeg)) (b + 5) 4 (mx_i (mx_wi (mx_wi (mx_wi (mx_wi h (b + 5) 0 i2) (b + 5) 1 (V_77 h a i2)) (b + 5) 2 (mx_i (mx_wi (mx_wi h (b + 5) 0 i2) (b + 5) 1 (V_77 h a i2)) (a + 3) i2.toNatClampNeg)) (b + 5) 3 (mx_i h (a + 4) i2.toNatClampNeg)) (a + 15) (mx_i h (a + 4) i2.toNatClampNeg).toNatClampNeg)) (a + 6) i2.toNatClampNeg)) (b + 5) 6 ((mx_i (mx_wi (mx_wi (mx_wi (mx_wi (mx_wi (mx_wi h (b + 5) 0 i2) (b + 5) 1 (V_77 h a i2)) (b + 5) 2 (mx_i (mx_wi (mx_wi h (b + 5) 0 i2) (b + 5) 1 (V_77 h a i2)) (a + 3) i2.toNatClampNeg)) (b + 5) 3 (mx_i h (a + 4) i2.toNatClampNeg)) (b + 5) 4 (mx_i (mx_wi (mx_wi (mx_wi (mx_wi h (b + 5) 0 i2) (b + 5) 1 (V_77 h a i2)) (b + 5) 2 (mx_i (mx_wi (mx_wi h (b + 5) 0 i2) (b + 5) 1 (V_77 h a i2)) (a + 3) i2.toNatClampNeg)) (b + 5) 3 (mx_i h (a + 4) i2.toNatClampNeg)) (a + 15) (mx_i h (a + 4) i2.toNatClampNeg).toNatClampNeg)) (b + 5) 5 (mx_i (mx_wi (mx_wi (mx_wi (mx_wi (mx_wi h (b + 5) 0 i2) (b + 5) 1 (V_77 h a i2)) (b + 5) 2 (mx_i (mx_wi (mx_wi h (b + 5) 0 i2) (b + 5) 1 (V_77 h a i2)) (a + 3) i2.toNatClampNeg)) (b + 5) 3 (mx_i h (a + 4) i2.toNatClampNeg)) (b + 5) 4 (mx_i (mx_wi (mx_wi (mx_wi (mx_wi h (b + 5) 0 i2) (b + 5) 1 (V_77 h a i2)) (b + 5) 2 (mx_i (mx_wi (mx_wi h (b + 5) 0 i2) (b + 5) 1 (V_77 h a i2)) (a + 3) i2.toNatClampNeg)) (b + 5) 3 (mx_i h (a + 4) i2.toNatClampNeg)) (a + 15) (mx_i h (a + 4) i2.toNatClampNeg).toNatClampNeg)) (a + 6) i2.toNatClampNeg)) a 6) - (mx_i (mx_wi (mx_wi (mx_wi (mx_wi (mx_wi (mx_wi h (b + 5) 0 i2) (b + 5) 1 (V_77 h a i2)) (b + 5) 2 (mx_i (mx_wi (mx_wi h (b + 5) 0 i2) (b + 5) 1 (V_77 h a i2)) (a + 3) i2.toNatClampNeg)) (b + 5) 3 (mx_i h (a + 4) i2.toNatClampNeg)) (b + 5) 4 (mx_i (mx_wi (mx_wi (mx_wi (mx_wi h (b + 5) 0 i2) (b + 5) 1 (V_77 h a i2)) (b + 5) 2 (mx_i (mx_wi (mx_wi h (b + 5) 0 i2) (b + 5) 1 (V_77 h a i2)) (a + 3) i2.toNatClampNeg)) (b + 5) 3 (mx_i h (a + 4) i2.toNatClampNeg)) (a + 15) (mx_i h (a + 4) i2.toNatClampNeg).toNatClampNeg)) (b + 5) 5 (mx_i (mx_wi (mx_wi (mx_wi (mx_wi (mx_wi h (b + 5) 0 i2) (b + 5) 1 (V_77 h a i2)) (b + 5) 2 (mx_i (mx_wi (mx_wi h (b + 5) 0 i2) (b + 5) 1 (V_77 h a i2)) (a + 3) i2.toNatClampNeg)) (b + 5) 3 (mx_i h (a + 4) i2.toNatClampNeg)) (b + 5) 4 (mx_i (mx_wi (mx_wi (mx_wi (mx_wi h (b + 5) 0 i2) (b + 5) 1 (V_77 h a i2)) (b + 5) 2 (mx_i (mx_wi (mx_wi h (b + 5) 0 i2) (b + 5) 1 (V_77 h a i2)) (a + 3) i2.toNatClampNeg)) (b + 5) 3 (mx_i h (a + 4) i2.toNatClampNeg)) (a + 15) (mx_i h (a + 4) i2.toNatClampNeg).toNatClampNeg)) (a + 6) i2.toNatClampNeg)) a 6) / 24 * 24)) (b + 5) 7 ((if (mx_i h (a + 4) i2.toNatClampNeg) = (mx_i (mx_wi (mx_wi (mx_wi (mx_wi (mx_wi (mx_wi (mx_wi h (b + 5) 0 i2) (b + 5) 1 (V_77 h a i2)) (b + 5) 2 (mx_i (mx_wi (mx_wi h (b + 5) 0 i2) (b + 5) 1 (V_77 h a i2)) (a + 3) i2.toNatClampNeg)) (b + 5) 3 (mx_i h (a + 4) i2.toNatClampNeg)) (b + 5) 4 (mx_i (mx_wi (mx_wi (mx_wi (mx_wi h (b + 5) 0 i2) (b + 5) 1 (V_77 h a i2)) (b + 5) 2 (mx_i (mx_wi (mx_wi h (b + 5) 0 i2) (b + 5) 1 (V_77 h a i2)) (a + 3) i2.toNatClampNeg)) (b + 5) 3 (mx_i h (a + 4) i2.toNatClampNeg)) (a + 15) (mx_i h (a + 4) i2.toNatClampNeg).toNatClampNeg)) (b + 5) 5 (mx_i (mx_wi (mx_wi (mx_wi (mx_wi (mx_wi h (b + 5) 0 i2) (b + 5) 1 (V_77 h a i2)) (b + 5) 2 (mx_i (mx_wi (mx_wi h (b + 5) 0 i2) (b + 5) 1 (V_77 h a i2)) (a + 3) i2.toNatClampNeg)) (b + 5) 3 (mx_i h (a + 4) i2.toNatClampNeg)) (b + 5) 4 (mx_i (mx_wi (mx_wi (mx_wi (mx_wi h (b + 5) 0 i2) (b + 5) 1 (V_77 h a i2)) (b + 5) 2 (mx_i (mx_wi (mx_wi h (b + 5) 0 i2) (b + 5) 1 (V_77 h a i2)) (a + 3) i2.toNatClampNeg)) (b + 5) 3 (mx_i h (a + 4) i2.toNatClampNeg)) (a + 15) (mx_i h (a + 4) i2.toNatClampNeg).toNatClampNeg)) (a + 6) i2.toNatClampNeg)) (b + 5) 6 ((mx_i (mx_wi (mx_wi (mx_wi (mx_wi (mx_wi (mx_wi h (b + 5) 0 i2) (b + 5) 1 (V_77 h a i2)) (b + 5) 2 (mx_i (mx_wi (mx_wi h (b + 5) 0 i2) (b + 5) 1 (V_77 h a i2)) (a + 3) i2.toNatClampNeg)) (b + 5) 3 (mx_i h (a + 4) i2.toNatClampNeg)) (b + 5) 4 (mx_i (mx_wi (mx_wi (mx_wi (mx_wi h (b + 5) 0 i2) (b + 5) 1 (V_77 h a i2)) (b + 5) 2 (mx_i (mx_wi (mx_wi h (b + 5) 0 i2) (b + 5) 1 (V_77 h a i2)) (a + 3) i2.toNatClampNeg)) (b + 5) 3 (mx_i h (a + 4) i2.toNatClampNeg)) (a + 15) (mx_i h (a + 4) i2.toNatClampNeg).toNatClampNeg)) (b + 5) 5 (mx_i (mx_wi (mx_wi (mx_wi (mx_wi (mx_wi h (b + 5) 0 i2) (b + 5) 1 (V_77 h a i2)) (b + 5) 2 (mx_i (mx_wi (mx_wi h (b + 5) 0 i2) (b + 5) 1 (V_77 h a i2)) (a + 3) i2.toNatClampNeg)) (b + 5) 3 (mx_i h (a + 4) i2.toNatClampNeg)) (b + 5) 4 (mx_i (mx_wi (mx_wi (mx_wi (mx_wi h (b + 5) 0 i2) (b + 5) 1 (V_77 h a i2)) (b + 5) 2 (mx_i (mx_wi (mx_wi h (b + 5) 0 i2) (b + 5) 1 (V_77 h a i2)) (a + 3) i2.toNatClampNeg)) (b + 5) 3 (mx_i h (a + 4) i2.toNatClampNeg)) (a + 15) (mx_i h (a + 4) i2.toNatClampNeg).toNatClampNeg)) (a + 6) i2.toNatClampNeg)) a 6) - (mx_i (mx_wi (mx_wi (mx_wi (mx_wi (mx_wi (mx_wi h (b + 5) 0 i2) (b + 5) 1 (V_77 h a i2)) (b + 5) 2 (mx_i (mx_wi (mx_wi h (b + 5) 0 i2) (b + 5) 1 (V_77 h a i2)) (a + 3) i2.toNatClampNeg)) (b + 5) 3 (mx_i h (a + 4) i2.toNatClampNeg)) (b + 5) 4 (mx_i (mx_wi (mx_wi (mx_wi (mx_wi h (b + 5) 0 i2) (b + 5) 1 (V_77 h a i2)) (b + 5) 2 (mx_i (mx_wi (mx_wi h (b + 5) 0 i2) (b + 5) 1 (V_77 h a i2)) (a + 3) i2.toNatClampNeg)) (b + 5) 3 (mx_i h (a + 4) i2.toNatClampNeg)) (a + 15) (mx_i h (a + 4) i2.toNatClampNeg).toNatClampNeg)) (b + 5) 5 (mx_i (mx_wi (mx_wi (mx_wi (mx_wi (mx_wi h (b + 5) 0 i2) (b + 5) 1 (V_77 h a i2)) (b + 5) 2 (mx_i (mx_wi (mx_wi h (b + 5) 0 i2) (b + 5) 1 (V_77 h a i2)) (a + 3) i2.toNatClampNeg)) (b + 5) 3 (mx_i h (a + 4) i2.toNatClampNeg)) (b + 5) 4 (mx_i (mx_wi (mx_wi (mx_wi (mx_wi h (b + 5) 0 i2) (b + 5) 1 (V_77 h a i2)) (b + 5) 2 (mx_i (mx_wi (mx_wi h (b + 5) 0 i2) (b + 5) 1 (V_77 h a i2)) (a + 3) i2.toNatClampNeg)) (b + 5) 3 (mx_i h (a + 4) i2.toNatClampNeg)) (a + 15) (mx_i h (a + 4) i2.toNatClampNeg).toNatClampNeg)) (a + 6) i2.toNatClampNeg)) a 6) / 24 * 24)) (a + 5) i2.toNatClampNeg) then 1 else 0) : Int32)) (b + 5) 8 ((if (V_77 h a i2) = 0 then 1 else 0) : Int32))
theorem KW_26 {h : mxH} {b : Nat} {a : Nat} {i2 : Int32} : mxK h (W_26 h b a i2) := by
  unfold W_26
  repeat' (first | with_reducible exact mxK_rfl | with_reducible exact mxK_wi | with_reducible exact mxK_wrow | with_reducible refine mxK_ite ?_ ?_ | with_reducible refine mxK_tr ?_ mxK_wi | with_reducible refine mxK_tr ?_ mxK_wrow)
theorem sp_26 {d : Nat} {h : mxH} {Q : mxO → mxH → Prop} {b : Nat} {a : Nat} {i2 : Int32} (G : mxG h) (hVb : (mxT b).1 = 3) (hVa : (mxT a).1 = 9) (x0 : vp_in i2 6) (x1 : cB (mx_i h (a + 7) 0) 10) (x2 : vp_in (mx_i h (a + 4) i2.toNatClampNeg) 12) (k : Q (.inl none) (W_26 h b a i2)) : mx_wp (d + 1) 26 0 (mx_fr 26 [.ref b, .ref a, .int i2]) [] h Q := by
  unfold W_26 at k
  have hob : (vp_in i2 6 ∧ (cB (mx_i h (a + 7) 0) 10 ∧ (vp_in (mx_i h (a + 4) i2.toNatClampNeg) 12 ∧ True))) := ⟨x0, ⟨x1, ⟨x2, trivial⟩⟩⟩
  refine tr_26_0 G hVb hVa ?_
  obtain ⟨q0, hob⟩ := hob
  refine ⟨q0, ?_⟩
  obtain ⟨q0, hob⟩ := hob
  refine ⟨q0, ?_⟩
  intro h3 eh3
  subst eh3
  intro h6 eh6
  subst eh6
  intro h9 eh9
  subst eh9
  intro h12 eh12
  subst eh12
  obtain ⟨q0, hob⟩ := hob
  refine ⟨q0, ?_⟩
  intro h16 eh16
  subst eh16
  intro h19 eh19
  subst eh19
  intro h22 eh22
  subst eh22
  intro v25 ev25
  subst ev25
  intro h26 eh26
  subst eh26
  intro v29 ev29
  subst ev29
  intro h30 eh30
  subst eh30
  exact k
/-! 28: StoneBacks$Law.joined(III)I -/
set_option maxRecDepth 8000 in
theorem tr_28_0 {d : Nat} {h : mxH} {Q : mxO → mxH → Prop} {i0 : Int32} {i1 : Int32} {i2 : Int32} (G : mxG h)  (H : ((i0 = 1010 → Q (.inl (some (.int (i1 + i2)))) h) ∧ (¬ i0 = 1010 → ((i0 = 1011 → (∀ (v3 : Int32), v3 = ((if i1 < i2 then 1 else 0) : Int32) → Q (.inl (some (.int v3))) h)) ∧ (¬ i0 = 1011 → ((i0 = 1012 → (∀ (v6 : Int32), v6 = ((if i2 < i1 then 1 else 0) : Int32) → Q (.inl (some (.int v6))) h)) ∧ (¬ i0 = 1012 → ((i0 = 1013 → Q (.inl (some (.int (i1 &&& i2)))) h) ∧ (¬ i0 = 1013 → Q (.inl (some (.int (i1 ||| i2)))) h))))))))) : mx_wp d 28 0 (mx_fr 28 [.int i0, .int i1, .int i2]) [] h Q := by
  show mx_wp d 28 0 [some (.int i0), some (.int i1), some (.int i2)] [] h Q
  refine wp_steps (i' := 1) (ls' := [some (.int i0), some (.int i1), some (.int i2)]) (st' := [.int i0]) (h' := h) (P := True) 1 rfl rfl trivial ?_
  refine wp_J (j := mx_sw 1010 [2, 6, 13, 20] 24 i0) (st' := []) rfl rfl ?_
  refine wp_sw (fun (c1 : i0 = 1010) => ?_) (fun (c1 : ¬ i0 = 1010) => ?_)
  · have H := H.1 c1
    refine wp_steps (i' := 5) (ls' := [some (.int i0), some (.int i1), some (.int i2)]) (st' := [.int (i1 + i2)]) (h' := h) (P := True) 3 rfl rfl trivial ?_
    exact wp_end (o := .inl (some (.int (i1 + i2)))) (h' := h) (P := True) rfl rfl trivial H
  have H := H.2 c1
  refine wp_sw (fun (c2 : i0 = 1011) => ?_) (fun (c2 : ¬ i0 = 1011) => ?_)
  · have H := H.1 c2
    refine wp_steps (i' := 8) (ls' := [some (.int i0), some (.int i1), some (.int i2)]) (st' := [.int i2, .int i1]) (h' := h) (P := True) 2 rfl rfl trivial ?_
    have J : ∀ (v3 : Int32) (ev3 : v3 = ((if i1 < i2 then 1 else 0) : Int32)), mx_wp d 28 12 [some (.int i0), some (.int i1), some (.int i2)] [.int v3] h Q := by
      intro v3 ev3
      have H := H v3 ev3
      exact wp_end (o := .inl (some (.int v3))) (h' := h) (P := True) rfl rfl trivial H
    refine wp_br (P := True) (c := i2 ≤ i1) (t := 11) (st' := []) rfl rfl trivial (fun c4 => ?_) (fun c4 => ?_)
    · have c4 := Int32.not_lt.mpr c4
      refine wp_steps (i' := 12) (ls' := [some (.int i0), some (.int i1), some (.int i2)]) (st' := [.int 0]) (h' := h) (P := True) 1 rfl rfl trivial ?_
      exact J _ (by rw [if_neg c4])
    · have c4 := Int32.not_le.mp c4
      refine wp_steps (i' := 10) (ls' := [some (.int i0), some (.int i1), some (.int i2)]) (st' := [.int 1]) (h' := h) (P := True) 1 rfl rfl trivial ?_
      refine wp_J (j := 12) (st' := [.int 1]) rfl rfl ?_
      exact J _ (by rw [if_pos c4])
  have H := H.2 c2
  refine wp_sw (fun (c5 : i0 = 1012) => ?_) (fun (c5 : ¬ i0 = 1012) => ?_)
  · have H := H.1 c5
    refine wp_steps (i' := 15) (ls' := [some (.int i0), some (.int i1), some (.int i2)]) (st' := [.int i2, .int i1]) (h' := h) (P := True) 2 rfl rfl trivial ?_
    have J : ∀ (v6 : Int32) (ev6 : v6 = ((if i2 < i1 then 1 else 0) : Int32)), mx_wp d 28 19 [some (.int i0), some (.int i1), some (.int i2)] [.int v6] h Q := by
      intro v6 ev6
      have H := H v6 ev6
      exact wp_end (o := .inl (some (.int v6))) (h' := h) (P := True) rfl rfl trivial H
    refine wp_br (P := True) (c := i1 ≤ i2) (t := 18) (st' := []) rfl rfl trivial (fun c7 => ?_) (fun c7 => ?_)
    · have c7 := Int32.not_lt.mpr c7
      refine wp_steps (i' := 19) (ls' := [some (.int i0), some (.int i1), some (.int i2)]) (st' := [.int 0]) (h' := h) (P := True) 1 rfl rfl trivial ?_
      exact J _ (by rw [if_neg c7])
    · have c7 := Int32.not_le.mp c7
      refine wp_steps (i' := 17) (ls' := [some (.int i0), some (.int i1), some (.int i2)]) (st' := [.int 1]) (h' := h) (P := True) 1 rfl rfl trivial ?_
      refine wp_J (j := 19) (st' := [.int 1]) rfl rfl ?_
      exact J _ (by rw [if_pos c7])
  have H := H.2 c5
  refine wp_sw (fun (c8 : i0 = 1013) => ?_) (fun (c8 : ¬ i0 = 1013) => ?_)
  · have H := H.1 c8
    refine wp_steps (i' := 23) (ls' := [some (.int i0), some (.int i1), some (.int i2)]) (st' := [.int (i1 &&& i2)]) (h' := h) (P := True) 3 rfl rfl trivial ?_
    exact wp_end (o := .inl (some (.int (i1 &&& i2)))) (h' := h) (P := True) rfl rfl trivial H
  have H := H.2 c8
  show mx_wp d 28 24 [some (.int i0), some (.int i1), some (.int i2)] [] h Q
  refine wp_steps (i' := 27) (ls' := [some (.int i0), some (.int i1), some (.int i2)]) (st' := [.int (i1 ||| i2)]) (h' := h) (P := True) 3 rfl rfl trivial ?_
  exact wp_end (o := .inl (some (.int (i1 ||| i2)))) (h' := h) (P := True) rfl rfl trivial H
def V_28 (h : mxH) (i0 : Int32) (i1 : Int32) (i2 : Int32) : Int32 := (if i0 = 1010 then (i1 + i2) else (if i0 = 1011 then ((if i1 < i2 then 1 else 0) : Int32) else (if i0 = 1012 then ((if i2 < i1 then 1 else 0) : Int32) else (if i0 = 1013 then (i1 &&& i2) else (i1 ||| i2)))))
theorem sp_28 {d : Nat} {h : mxH} {Q : mxO → mxH → Prop} {i0 : Int32} {i1 : Int32} {i2 : Int32} (G : mxG h)  (k : Q (.inl (some (.int (V_28 h i0 i1 i2)))) h) : mx_wp d 28 0 (mx_fr 28 [.int i0, .int i1, .int i2]) [] h Q := by
  unfold V_28 at k
  refine tr_28_0 G  ?_
  refine ⟨fun c9 => ?_, fun c9 => ?_⟩
  · try simp only [if_pos c9] at k
    exact k
  · try simp only [if_neg c9] at k
    refine ⟨fun c9 => ?_, fun c9 => ?_⟩
    · try simp only [if_pos c9] at k
      intro v3 ev3
      subst ev3
      exact k
    · try simp only [if_neg c9] at k
      refine ⟨fun c9 => ?_, fun c9 => ?_⟩
      · try simp only [if_pos c9] at k
        intro v6 ev6
        subst ev6
        exact k
      · try simp only [if_neg c9] at k
        refine ⟨fun c9 => ?_, fun c9 => ?_⟩
        · try simp only [if_pos c9] at k
          exact k
        · try simp only [if_neg c9] at k
          exact k
/-! 27: StoneBacks$Law.holds(I)Z -/
def H_27_23 (d : Nat) (h : mxH) (b : Nat) (i2 : Int32) (i3 : Int32) (i4 : Int32) (Q : mxO → mxH → Prop) : Prop := ∀ (w1 : Option Value) (w5 : Option Value), mx_wp d 27 23 [some (.ref b), w1, some (.int i2), some (.int i3), some (.int i4), w5] [] h Q
set_option maxRecDepth 8000 in
theorem tr_27_0 {d : Nat} {h : mxH} {Q : mxO → mxH → Prop} {b : Nat} {i1 : Int32} (G : mxG h) (hVb : (mxT b).1 = 3) (H : ((((i1 + 1) < (mx_i h b 1) → (vp_in (i1 + 1) 12 ∧ True)) ∧ (¬ (i1 + 1) < (mx_i h b 1) → True)) ∧ (∀ (v1 : Int32), v1 = ((if (i1 + 1) < (mx_i h b 1) then (mx_i h (b + 3) (i1 + 1).toNatClampNeg) else (mx_i h b 2)) : Int32) → (vp_in i1 12 ∧ H_27_23 (d + 1) h b v1 0 (mx_i h (b + 3) i1.toNatClampNeg) Q)))) : mx_wp (d + 1) 27 0 (mx_fr 27 [.ref b, .int i1]) [] h Q := by
  show mx_wp (d + 1) 27 0 [some (.ref b), some (.int i1), none, none, none, none] [] h Q
  refine wp_steps (i' := 5) (ls' := [some (.ref b), some (.int i1), none, none, none, none]) (st' := [.int (mx_i h b 1), .int (i1 + 1)]) (h' := h) (P := ((mxT b).1 = 3 ∧ mxG h) ∧ True) 5 rfl rfl ⟨⟨(congrArg Prod.fst (sL_0 hVb)), G⟩, trivial⟩ ?_
  have J : ∀ (v1 : Int32) (ev1 : v1 = ((if (i1 + 1) < (mx_i h b 1) then (mx_i h (b + 3) (i1 + 1).toNatClampNeg) else (mx_i h b 2)) : Int32)), mx_wp (d + 1) 27 15 [some (.ref b), some (.int i1), none, none, none, none] [.int v1] h Q := by
    intro v1 ev1
    have H := H.2 v1 ev1
    obtain ⟨o2, H⟩ := H
    refine wp_steps (i' := 23) (ls' := [some (.ref b), some (.int i1), some (.int v1), some (.int 0), some (.int (mx_i h (b + 3) i1.toNatClampNeg)), none]) (st' := []) (h' := h) (P := ((mxT b).1 = 3 ∧ mxG h) ∧ (((mxT (b + 3)).1 = 50 ∧ mxG h) ∧ vp_in i1 (mxT (b + 3)).2) ∧ True) 8 rfl rfl ⟨⟨(congrArg Prod.fst (sL_0 hVb)), G⟩, (cA (sL_3 hVb) G o2), trivial⟩ ?_
    exact H _ _
  have H := H.1
  refine wp_br (P := True) (c := (mx_i h b 1) ≤ (i1 + 1)) (t := 13) (st' := []) rfl rfl trivial (fun c3 => ?_) (fun c3 => ?_)
  · have c3 := Int32.not_lt.mpr c3
    refine wp_steps (i' := 15) (ls' := [some (.ref b), some (.int i1), none, none, none, none]) (st' := [.int (mx_i h b 2)]) (h' := h) (P := ((mxT b).1 = 3 ∧ mxG h) ∧ True) 2 rfl rfl ⟨⟨(congrArg Prod.fst (sL_0 hVb)), G⟩, trivial⟩ ?_
    exact J _ (by rw [if_neg c3])
  · have c3 := Int32.not_le.mp c3
    have H := H.1 c3
    obtain ⟨o4, H⟩ := H
    refine wp_steps (i' := 12) (ls' := [some (.ref b), some (.int i1), none, none, none, none]) (st' := [.int (mx_i h (b + 3) (i1 + 1).toNatClampNeg)]) (h' := h) (P := ((mxT b).1 = 3 ∧ mxG h) ∧ (((mxT (b + 3)).1 = 50 ∧ mxG h) ∧ vp_in (i1 + 1) (mxT (b + 3)).2) ∧ True) 6 rfl rfl ⟨⟨(congrArg Prod.fst (sL_0 hVb)), G⟩, (cA (sL_3 hVb) G o4), trivial⟩ ?_
    refine wp_J (j := 15) (st' := [.int (mx_i h (b + 3) (i1 + 1).toNatClampNeg)]) rfl rfl ?_
    exact J _ (by rw [if_pos c3])
set_option maxRecDepth 8000 in
theorem tr_27_23 {d : Nat} {h : mxH} {Q : mxO → mxH → Prop} {b : Nat} {i2 : Int32} {i3 : Int32} {i4 : Int32} (G : mxG h) (hVb : (mxT b).1 = 3) (H : ((i4 < i2 → (vp_in i4 400 ∧ ((1008 < (mx_i h (b + 4) i4.toNatClampNeg) → (((mx_i h (b + 4) i4.toNatClampNeg) = 1009 → ((i3 < 1 → ((1009 < (mx_i h (b + 4) i4.toNatClampNeg) → ((i3 < 2 → H_27_23 (d + 1) h b i2 i3 (i4 + 1) Q) ∧ (¬ i3 < 2 → (vp_in ((i3 + (-1)) - 1) 64 ∧ vp_in (i3 + (-1)) 64 ∧ (∀ h20, h20 = mx_wi h (b + 6) ((i3 + (-1)) - 1).toNatClampNeg (V_28 h (mx_i h (b + 4) i4.toNatClampNeg) (mx_i h (b + 6) ((i3 + (-1)) - 1).toNatClampNeg) (mx_i h (b + 6) (i3 + (-1)).toNatClampNeg)) → H_27_23 (d + 1) h20 b i2 (i3 + (-1)) (i4 + 1) Q))))) ∧ (¬ 1009 < (mx_i h (b + 4) i4.toNatClampNeg) → H_27_23 (d + 1) h b i2 i3 (i4 + 1) Q))) ∧ (¬ i3 < 1 → (vp_in (i3 - 1) 64 ∧ (∀ h24, h24 = mx_wi h (b + 6) (i3 - 1).toNatClampNeg (1 - (mx_i h (b + 6) (i3 - 1).toNatClampNeg)) → H_27_23 (d + 1) h24 b i2 i3 (i4 + 1) Q))))) ∧ (¬ (mx_i h (b + 4) i4.toNatClampNeg) = 1009 → ((1009 < (mx_i h (b + 4) i4.toNatClampNeg) → ((i3 < 2 → H_27_23 (d + 1) h b i2 i3 (i4 + 1) Q) ∧ (¬ i3 < 2 → (vp_in ((i3 + (-1)) - 1) 64 ∧ vp_in (i3 + (-1)) 64 ∧ (∀ h12, h12 = mx_wi h (b + 6) ((i3 + (-1)) - 1).toNatClampNeg (V_28 h (mx_i h (b + 4) i4.toNatClampNeg) (mx_i h (b + 6) ((i3 + (-1)) - 1).toNatClampNeg) (mx_i h (b + 6) (i3 + (-1)).toNatClampNeg)) → H_27_23 (d + 1) h12 b i2 (i3 + (-1)) (i4 + 1) Q))))) ∧ (¬ 1009 < (mx_i h (b + 4) i4.toNatClampNeg) → H_27_23 (d + 1) h b i2 i3 (i4 + 1) Q))))) ∧ (¬ 1008 < (mx_i h (b + 4) i4.toNatClampNeg) → ((i3 < 64 → ((((mx_i h (b + 4) i4.toNatClampNeg) < 1000 → True) ∧ (¬ (mx_i h (b + 4) i4.toNatClampNeg) < 1000 → (vp_in ((mx_i h (b + 4) i4.toNatClampNeg) - 1000) 9 ∧ True))) ∧ (∀ (v48 : Int32), v48 = ((if (mx_i h (b + 4) i4.toNatClampNeg) < 1000 then (mx_i h (b + 4) i4.toNatClampNeg) else (mx_i h (b + 5) ((mx_i h (b + 4) i4.toNatClampNeg) - 1000).toNatClampNeg)) : Int32) → (vp_in i3 64 ∧ (∀ h50, h50 = mx_wi h (b + 6) i3.toNatClampNeg v48 → H_27_23 (d + 1) h50 b i2 (i3 + 1) (i4 + 1) Q))))) ∧ (¬ i3 < 64 → (((mx_i h (b + 4) i4.toNatClampNeg) = 1009 → ((i3 < 1 → ((1009 < (mx_i h (b + 4) i4.toNatClampNeg) → ((i3 < 2 → H_27_23 (d + 1) h b i2 i3 (i4 + 1) Q) ∧ (¬ i3 < 2 → (vp_in ((i3 + (-1)) - 1) 64 ∧ vp_in (i3 + (-1)) 64 ∧ (∀ h41, h41 = mx_wi h (b + 6) ((i3 + (-1)) - 1).toNatClampNeg (V_28 h (mx_i h (b + 4) i4.toNatClampNeg) (mx_i h (b + 6) ((i3 + (-1)) - 1).toNatClampNeg) (mx_i h (b + 6) (i3 + (-1)).toNatClampNeg)) → H_27_23 (d + 1) h41 b i2 (i3 + (-1)) (i4 + 1) Q))))) ∧ (¬ 1009 < (mx_i h (b + 4) i4.toNatClampNeg) → H_27_23 (d + 1) h b i2 i3 (i4 + 1) Q))) ∧ (¬ i3 < 1 → (vp_in (i3 - 1) 64 ∧ (∀ h45, h45 = mx_wi h (b + 6) (i3 - 1).toNatClampNeg (1 - (mx_i h (b + 6) (i3 - 1).toNatClampNeg)) → H_27_23 (d + 1) h45 b i2 i3 (i4 + 1) Q))))) ∧ (¬ (mx_i h (b + 4) i4.toNatClampNeg) = 1009 → ((1009 < (mx_i h (b + 4) i4.toNatClampNeg) → ((i3 < 2 → H_27_23 (d + 1) h b i2 i3 (i4 + 1) Q) ∧ (¬ i3 < 2 → (vp_in ((i3 + (-1)) - 1) 64 ∧ vp_in (i3 + (-1)) 64 ∧ (∀ h33, h33 = mx_wi h (b + 6) ((i3 + (-1)) - 1).toNatClampNeg (V_28 h (mx_i h (b + 4) i4.toNatClampNeg) (mx_i h (b + 6) ((i3 + (-1)) - 1).toNatClampNeg) (mx_i h (b + 6) (i3 + (-1)).toNatClampNeg)) → H_27_23 (d + 1) h33 b i2 (i3 + (-1)) (i4 + 1) Q))))) ∧ (¬ 1009 < (mx_i h (b + 4) i4.toNatClampNeg) → H_27_23 (d + 1) h b i2 i3 (i4 + 1) Q)))))))))) ∧ (¬ i4 < i2 → (∀ (v2 : Int32), v2 = ((if i3 = 0 then 1 else (if (mx_i h (b + 6) 0) = 0 then 0 else 1)) : Int32) → Q (.inl (some (.int v2))) h)))) : H_27_23 (d + 1) h b i2 i3 i4 Q := by
  intro w1 w5
  show mx_wp (d + 1) 27 23 [some (.ref b), w1, some (.int i2), some (.int i3), some (.int i4), w5] [] h Q
  refine wp_steps (i' := 25) (ls' := [some (.ref b), w1, some (.int i2), some (.int i3), some (.int i4), w5]) (st' := [.int i2, .int i4]) (h' := h) (P := True) 2 rfl rfl trivial ?_
  refine wp_br (P := True) (c := i2 ≤ i4) (t := 102) (st' := []) rfl rfl trivial (fun c1 => ?_) (fun c1 => ?_)
  · have c1 := Int32.not_lt.mpr c1
    have H := H.2 c1
    refine wp_steps (i' := 103) (ls' := [some (.ref b), w1, some (.int i2), some (.int i3), some (.int i4), w5]) (st' := [.int i3]) (h' := h) (P := True) 1 rfl rfl trivial ?_
    have J : ∀ (v2 : Int32) (ev2 : v2 = ((if i3 = 0 then 1 else (if (mx_i h (b + 6) 0) = 0 then 0 else 1)) : Int32)), mx_wp (d + 1) 27 112 [some (.ref b), w1, some (.int i2), some (.int i3), some (.int i4), w5] [.int v2] h Q := by
      intro v2 ev2
      have H := H v2 ev2
      exact wp_end (o := .inl (some (.int v2))) (h' := h) (P := (v2 = 0 ∨ v2 = 1)) rfl rfl (b01 ev2 (by repeat' (first | exact Or.inl rfl | exact Or.inr rfl | split))) H
    refine wp_br (P := True) (c := i3 = 0) (t := 109) (st' := []) rfl rfl trivial (fun c3 => ?_) (fun c3 => ?_)
    · skip
      refine wp_steps (i' := 110) (ls' := [some (.ref b), w1, some (.int i2), some (.int i3), some (.int i4), w5]) (st' := [.int 1]) (h' := h) (P := True) 1 rfl rfl trivial ?_
      refine wp_J (j := 112) (st' := [.int 1]) rfl rfl ?_
      exact J _ (by rw [if_pos c3])
    · skip
      refine wp_steps (i' := 108) (ls' := [some (.ref b), w1, some (.int i2), some (.int i3), some (.int i4), w5]) (st' := [.int (mx_i h (b + 6) 0)]) (h' := h) (P := ((mxT b).1 = 3 ∧ mxG h) ∧ (((mxT (b + 6)).1 = 50 ∧ mxG h) ∧ vp_in 0 (mxT (b + 6)).2) ∧ True) 4 rfl rfl ⟨⟨(congrArg Prod.fst (sL_0 hVb)), G⟩, (cA (sL_6 hVb) G (vpl rfl)), trivial⟩ ?_
      refine wp_br (P := True) (c := (mx_i h (b + 6) 0) = 0) (t := 111) (st' := []) rfl rfl trivial (fun c4 => ?_) (fun c4 => ?_)
      · skip
        refine wp_steps (i' := 112) (ls' := [some (.ref b), w1, some (.int i2), some (.int i3), some (.int i4), w5]) (st' := [.int 0]) (h' := h) (P := True) 1 rfl rfl trivial ?_
        exact J _ (by rw [if_neg c3, if_pos c4])
      · skip
        refine wp_steps (i' := 110) (ls' := [some (.ref b), w1, some (.int i2), some (.int i3), some (.int i4), w5]) (st' := [.int 1]) (h' := h) (P := True) 1 rfl rfl trivial ?_
        refine wp_J (j := 112) (st' := [.int 1]) rfl rfl ?_
        exact J _ (by rw [if_neg c3, if_neg c4])
  · have c1 := Int32.not_le.mp c1
    have H := H.1 c1
    obtain ⟨o5, H⟩ := H
    refine wp_steps (i' := 33) (ls' := [some (.ref b), w1, some (.int i2), some (.int i3), some (.int i4), some (.int (mx_i h (b + 4) i4.toNatClampNeg))]) (st' := [.int 1008, .int (mx_i h (b + 4) i4.toNatClampNeg)]) (h' := h) (P := ((mxT b).1 = 3 ∧ mxG h) ∧ (((mxT (b + 4)).1 = 50 ∧ mxG h) ∧ vp_in i4 (mxT (b + 4)).2) ∧ True) 7 rfl rfl ⟨⟨(congrArg Prod.fst (sL_0 hVb)), G⟩, (cA (sL_4 hVb) G o5), trivial⟩ ?_
    refine wp_br (P := True) (c := 1008 < (mx_i h (b + 4) i4.toNatClampNeg)) (t := 54) (st' := []) rfl rfl trivial (fun c6 => ?_) (fun c6 => ?_)
    · skip
      have H := H.1 c6
      refine wp_steps (i' := 56) (ls' := [some (.ref b), w1, some (.int i2), some (.int i3), some (.int i4), some (.int (mx_i h (b + 4) i4.toNatClampNeg))]) (st' := [.int 1009, .int (mx_i h (b + 4) i4.toNatClampNeg)]) (h' := h) (P := True) 2 rfl rfl trivial ?_
      refine wp_br (P := True) (c := ¬ (mx_i h (b + 4) i4.toNatClampNeg) = 1009) (t := 75) (st' := []) rfl rfl trivial (fun c7 => ?_) (fun c7 => ?_)
      · skip
        have H := H.2 c7
        refine wp_steps (i' := 77) (ls' := [some (.ref b), w1, some (.int i2), some (.int i3), some (.int i4), some (.int (mx_i h (b + 4) i4.toNatClampNeg))]) (st' := [.int 1009, .int (mx_i h (b + 4) i4.toNatClampNeg)]) (h' := h) (P := True) 2 rfl rfl trivial ?_
        refine wp_br (P := True) (c := (mx_i h (b + 4) i4.toNatClampNeg) ≤ 1009) (t := 100) (st' := []) rfl rfl trivial (fun c8 => ?_) (fun c8 => ?_)
        · have c8 := Int32.not_lt.mpr c8
          have H := H.2 c8
          refine wp_steps (i' := 101) (ls' := [some (.ref b), w1, some (.int i2), some (.int i3), some (.int (i4 + 1)), some (.int (mx_i h (b + 4) i4.toNatClampNeg))]) (st' := []) (h' := h) (P := True) 1 rfl rfl trivial ?_
          refine wp_J (j := 23) (st' := []) rfl rfl ?_
          exact H _ _
        · have c8 := Int32.not_le.mp c8
          have H := H.1 c8
          refine wp_steps (i' := 80) (ls' := [some (.ref b), w1, some (.int i2), some (.int i3), some (.int i4), some (.int (mx_i h (b + 4) i4.toNatClampNeg))]) (st' := [.int 2, .int i3]) (h' := h) (P := True) 2 rfl rfl trivial ?_
          refine wp_br (P := True) (c := i3 < 2) (t := 100) (st' := []) rfl rfl trivial (fun c9 => ?_) (fun c9 => ?_)
          · skip
            have H := H.1 c9
            refine wp_steps (i' := 101) (ls' := [some (.ref b), w1, some (.int i2), some (.int i3), some (.int (i4 + 1)), some (.int (mx_i h (b + 4) i4.toNatClampNeg))]) (st' := []) (h' := h) (P := True) 1 rfl rfl trivial ?_
            refine wp_J (j := 23) (st' := []) rfl rfl ?_
            exact H _ _
          · skip
            have H := H.2 c9
            obtain ⟨o10, o11, H⟩ := H
            refine wp_steps (i' := 98) (ls' := [some (.ref b), w1, some (.int i2), some (.int (i3 + (-1))), some (.int i4), some (.int (mx_i h (b + 4) i4.toNatClampNeg))]) (st' := [.int (mx_i h (b + 6) (i3 + (-1)).toNatClampNeg), .int (mx_i h (b + 6) ((i3 + (-1)) - 1).toNatClampNeg), .int (mx_i h (b + 4) i4.toNatClampNeg), .int ((i3 + (-1)) - 1), .ref (b + 6)]) (h' := h) (P := ((mxT b).1 = 3 ∧ mxG h) ∧ ((mxT b).1 = 3 ∧ mxG h) ∧ (((mxT (b + 6)).1 = 50 ∧ mxG h) ∧ vp_in ((i3 + (-1)) - 1) (mxT (b + 6)).2) ∧ ((mxT b).1 = 3 ∧ mxG h) ∧ (((mxT (b + 6)).1 = 50 ∧ mxG h) ∧ vp_in (i3 + (-1)) (mxT (b + 6)).2) ∧ True) 17 rfl rfl ⟨⟨(congrArg Prod.fst (sL_0 hVb)), G⟩, ⟨(congrArg Prod.fst (sL_0 hVb)), G⟩, (cA (sL_6 hVb) G o10), ⟨(congrArg Prod.fst (sL_0 hVb)), G⟩, (cA (sL_6 hVb) G o11), trivial⟩ ?_
            refine wp_call (b := false) (y' := 28) (as := [.int (mx_i h (b + 4) i4.toNatClampNeg), .int (mx_i h (b + 6) ((i3 + (-1)) - 1).toNatClampNeg), .int (mx_i h (b + 6) (i3 + (-1)).toNatClampNeg)]) (rest := [.int ((i3 + (-1)) - 1), .ref (b + 6)]) (P := True) rfl (by with_unfolding_all rfl) trivial (Nat.le_of_ble_eq_true rfl) (sp_28 G ?_)
            show mx_wp (d + 1) 27 99 [some (.ref b), w1, some (.int i2), some (.int (i3 + (-1))), some (.int i4), some (.int (mx_i h (b + 4) i4.toNatClampNeg))] [.int (V_28 h (mx_i h (b + 4) i4.toNatClampNeg) (mx_i h (b + 6) ((i3 + (-1)) - 1).toNatClampNeg) (mx_i h (b + 6) (i3 + (-1)).toNatClampNeg)), .int ((i3 + (-1)) - 1), .ref (b + 6)] h Q
            refine wp_steps (i' := 100) (ls' := [some (.ref b), w1, some (.int i2), some (.int (i3 + (-1))), some (.int i4), some (.int (mx_i h (b + 4) i4.toNatClampNeg))]) (st' := []) (h' := mx_wi h (b + 6) ((i3 + (-1)) - 1).toNatClampNeg (V_28 h (mx_i h (b + 4) i4.toNatClampNeg) (mx_i h (b + 6) ((i3 + (-1)) - 1).toNatClampNeg) (mx_i h (b + 6) (i3 + (-1)).toNatClampNeg))) (P := (((mxT (b + 6)).1 = 50 ∧ mxG h) ∧ vp_in ((i3 + (-1)) - 1) (mxT (b + 6)).2) ∧ True) 1 rfl rfl ⟨(cA (sL_6 hVb) G o10), trivial⟩ ?_
            obtain ⟨h12, e13⟩ : ∃ z9, z9 = mx_wi h (b + 6) ((i3 + (-1)) - 1).toNatClampNeg (V_28 h (mx_i h (b + 4) i4.toNatClampNeg) (mx_i h (b + 6) ((i3 + (-1)) - 1).toNatClampNeg) (mx_i h (b + 6) (i3 + (-1)).toNatClampNeg)) := ⟨_, rfl⟩
            rw [← e13]
            have H := H h12 e13
            have G14 : mxG h12 := e13 ▸ mxG_wi G
            refine wp_steps (i' := 101) (ls' := [some (.ref b), w1, some (.int i2), some (.int (i3 + (-1))), some (.int (i4 + 1)), some (.int (mx_i h (b + 4) i4.toNatClampNeg))]) (st' := []) (h' := h12) (P := True) 1 rfl rfl trivial ?_
            refine wp_J (j := 23) (st' := []) rfl rfl ?_
            exact H _ _
      · have c7 := Decidable.of_not_not c7
        have H := H.1 c7
        refine wp_steps (i' := 59) (ls' := [some (.ref b), w1, some (.int i2), some (.int i3), some (.int i4), some (.int (mx_i h (b + 4) i4.toNatClampNeg))]) (st' := [.int 1, .int i3]) (h' := h) (P := True) 2 rfl rfl trivial ?_
        refine wp_br (P := True) (c := i3 < 1) (t := 75) (st' := []) rfl rfl trivial (fun c15 => ?_) (fun c15 => ?_)
        · skip
          have H := H.1 c15
          refine wp_steps (i' := 77) (ls' := [some (.ref b), w1, some (.int i2), some (.int i3), some (.int i4), some (.int (mx_i h (b + 4) i4.toNatClampNeg))]) (st' := [.int 1009, .int (mx_i h (b + 4) i4.toNatClampNeg)]) (h' := h) (P := True) 2 rfl rfl trivial ?_
          refine wp_br (P := True) (c := (mx_i h (b + 4) i4.toNatClampNeg) ≤ 1009) (t := 100) (st' := []) rfl rfl trivial (fun c16 => ?_) (fun c16 => ?_)
          · have c16 := Int32.not_lt.mpr c16
            have H := H.2 c16
            refine wp_steps (i' := 101) (ls' := [some (.ref b), w1, some (.int i2), some (.int i3), some (.int (i4 + 1)), some (.int (mx_i h (b + 4) i4.toNatClampNeg))]) (st' := []) (h' := h) (P := True) 1 rfl rfl trivial ?_
            refine wp_J (j := 23) (st' := []) rfl rfl ?_
            exact H _ _
          · have c16 := Int32.not_le.mp c16
            have H := H.1 c16
            refine wp_steps (i' := 80) (ls' := [some (.ref b), w1, some (.int i2), some (.int i3), some (.int i4), some (.int (mx_i h (b + 4) i4.toNatClampNeg))]) (st' := [.int 2, .int i3]) (h' := h) (P := True) 2 rfl rfl trivial ?_
            refine wp_br (P := True) (c := i3 < 2) (t := 100) (st' := []) rfl rfl trivial (fun c17 => ?_) (fun c17 => ?_)
            · skip
              have H := H.1 c17
              refine wp_steps (i' := 101) (ls' := [some (.ref b), w1, some (.int i2), some (.int i3), some (.int (i4 + 1)), some (.int (mx_i h (b + 4) i4.toNatClampNeg))]) (st' := []) (h' := h) (P := True) 1 rfl rfl trivial ?_
              refine wp_J (j := 23) (st' := []) rfl rfl ?_
              exact H _ _
            · skip
              have H := H.2 c17
              obtain ⟨o18, o19, H⟩ := H
              refine wp_steps (i' := 98) (ls' := [some (.ref b), w1, some (.int i2), some (.int (i3 + (-1))), some (.int i4), some (.int (mx_i h (b + 4) i4.toNatClampNeg))]) (st' := [.int (mx_i h (b + 6) (i3 + (-1)).toNatClampNeg), .int (mx_i h (b + 6) ((i3 + (-1)) - 1).toNatClampNeg), .int (mx_i h (b + 4) i4.toNatClampNeg), .int ((i3 + (-1)) - 1), .ref (b + 6)]) (h' := h) (P := ((mxT b).1 = 3 ∧ mxG h) ∧ ((mxT b).1 = 3 ∧ mxG h) ∧ (((mxT (b + 6)).1 = 50 ∧ mxG h) ∧ vp_in ((i3 + (-1)) - 1) (mxT (b + 6)).2) ∧ ((mxT b).1 = 3 ∧ mxG h) ∧ (((mxT (b + 6)).1 = 50 ∧ mxG h) ∧ vp_in (i3 + (-1)) (mxT (b + 6)).2) ∧ True) 17 rfl rfl ⟨⟨(congrArg Prod.fst (sL_0 hVb)), G⟩, ⟨(congrArg Prod.fst (sL_0 hVb)), G⟩, (cA (sL_6 hVb) G o18), ⟨(congrArg Prod.fst (sL_0 hVb)), G⟩, (cA (sL_6 hVb) G o19), trivial⟩ ?_
              refine wp_call (b := false) (y' := 28) (as := [.int (mx_i h (b + 4) i4.toNatClampNeg), .int (mx_i h (b + 6) ((i3 + (-1)) - 1).toNatClampNeg), .int (mx_i h (b + 6) (i3 + (-1)).toNatClampNeg)]) (rest := [.int ((i3 + (-1)) - 1), .ref (b + 6)]) (P := True) rfl (by with_unfolding_all rfl) trivial (Nat.le_of_ble_eq_true rfl) (sp_28 G ?_)
              show mx_wp (d + 1) 27 99 [some (.ref b), w1, some (.int i2), some (.int (i3 + (-1))), some (.int i4), some (.int (mx_i h (b + 4) i4.toNatClampNeg))] [.int (V_28 h (mx_i h (b + 4) i4.toNatClampNeg) (mx_i h (b + 6) ((i3 + (-1)) - 1).toNatClampNeg) (mx_i h (b + 6) (i3 + (-1)).toNatClampNeg)), .int ((i3 + (-1)) - 1), .ref (b + 6)] h Q
              refine wp_steps (i' := 100) (ls' := [some (.ref b), w1, some (.int i2), some (.int (i3 + (-1))), some (.int i4), some (.int (mx_i h (b + 4) i4.toNatClampNeg))]) (st' := []) (h' := mx_wi h (b + 6) ((i3 + (-1)) - 1).toNatClampNeg (V_28 h (mx_i h (b + 4) i4.toNatClampNeg) (mx_i h (b + 6) ((i3 + (-1)) - 1).toNatClampNeg) (mx_i h (b + 6) (i3 + (-1)).toNatClampNeg))) (P := (((mxT (b + 6)).1 = 50 ∧ mxG h) ∧ vp_in ((i3 + (-1)) - 1) (mxT (b + 6)).2) ∧ True) 1 rfl rfl ⟨(cA (sL_6 hVb) G o18), trivial⟩ ?_
              obtain ⟨h20, e21⟩ : ∃ z9, z9 = mx_wi h (b + 6) ((i3 + (-1)) - 1).toNatClampNeg (V_28 h (mx_i h (b + 4) i4.toNatClampNeg) (mx_i h (b + 6) ((i3 + (-1)) - 1).toNatClampNeg) (mx_i h (b + 6) (i3 + (-1)).toNatClampNeg)) := ⟨_, rfl⟩
              rw [← e21]
              have H := H h20 e21
              have G22 : mxG h20 := e21 ▸ mxG_wi G
              refine wp_steps (i' := 101) (ls' := [some (.ref b), w1, some (.int i2), some (.int (i3 + (-1))), some (.int (i4 + 1)), some (.int (mx_i h (b + 4) i4.toNatClampNeg))]) (st' := []) (h' := h20) (P := True) 1 rfl rfl trivial ?_
              refine wp_J (j := 23) (st' := []) rfl rfl ?_
              exact H _ _
        · skip
          have H := H.2 c15
          obtain ⟨o23, H⟩ := H
          refine wp_steps (i' := 74) (ls' := [some (.ref b), w1, some (.int i2), some (.int i3), some (.int i4), some (.int (mx_i h (b + 4) i4.toNatClampNeg))]) (st' := []) (h' := mx_wi h (b + 6) (i3 - 1).toNatClampNeg (1 - (mx_i h (b + 6) (i3 - 1).toNatClampNeg))) (P := ((mxT b).1 = 3 ∧ mxG h) ∧ ((mxT b).1 = 3 ∧ mxG h) ∧ (((mxT (b + 6)).1 = 50 ∧ mxG h) ∧ vp_in (i3 - 1) (mxT (b + 6)).2) ∧ (((mxT (b + 6)).1 = 50 ∧ mxG h) ∧ vp_in (i3 - 1) (mxT (b + 6)).2) ∧ True) 14 rfl rfl ⟨⟨(congrArg Prod.fst (sL_0 hVb)), G⟩, ⟨(congrArg Prod.fst (sL_0 hVb)), G⟩, (cA (sL_6 hVb) G o23), (cA (sL_6 hVb) G o23), trivial⟩ ?_
          obtain ⟨h24, e25⟩ : ∃ z9, z9 = mx_wi h (b + 6) (i3 - 1).toNatClampNeg (1 - (mx_i h (b + 6) (i3 - 1).toNatClampNeg)) := ⟨_, rfl⟩
          rw [← e25]
          have H := H h24 e25
          have G26 : mxG h24 := e25 ▸ mxG_wi G
          refine wp_J (j := 100) (st' := []) rfl rfl ?_
          refine wp_steps (i' := 101) (ls' := [some (.ref b), w1, some (.int i2), some (.int i3), some (.int (i4 + 1)), some (.int (mx_i h (b + 4) i4.toNatClampNeg))]) (st' := []) (h' := h24) (P := True) 1 rfl rfl trivial ?_
          refine wp_J (j := 23) (st' := []) rfl rfl ?_
          exact H _ _
    · skip
      have H := H.2 c6
      refine wp_steps (i' := 36) (ls' := [some (.ref b), w1, some (.int i2), some (.int i3), some (.int i4), some (.int (mx_i h (b + 4) i4.toNatClampNeg))]) (st' := [.int 64, .int i3]) (h' := h) (P := True) 2 rfl rfl trivial ?_
      refine wp_br (P := True) (c := 64 ≤ i3) (t := 54) (st' := []) rfl rfl trivial (fun c27 => ?_) (fun c27 => ?_)
      · have c27 := Int32.not_lt.mpr c27
        have H := H.2 c27
        refine wp_steps (i' := 56) (ls' := [some (.ref b), w1, some (.int i2), some (.int i3), some (.int i4), some (.int (mx_i h (b + 4) i4.toNatClampNeg))]) (st' := [.int 1009, .int (mx_i h (b + 4) i4.toNatClampNeg)]) (h' := h) (P := True) 2 rfl rfl trivial ?_
        refine wp_br (P := True) (c := ¬ (mx_i h (b + 4) i4.toNatClampNeg) = 1009) (t := 75) (st' := []) rfl rfl trivial (fun c28 => ?_) (fun c28 => ?_)
        · skip
          have H := H.2 c28
          refine wp_steps (i' := 77) (ls' := [some (.ref b), w1, some (.int i2), some (.int i3), some (.int i4), some (.int (mx_i h (b + 4) i4.toNatClampNeg))]) (st' := [.int 1009, .int (mx_i h (b + 4) i4.toNatClampNeg)]) (h' := h) (P := True) 2 rfl rfl trivial ?_
          refine wp_br (P := True) (c := (mx_i h (b + 4) i4.toNatClampNeg) ≤ 1009) (t := 100) (st' := []) rfl rfl trivial (fun c29 => ?_) (fun c29 => ?_)
          · have c29 := Int32.not_lt.mpr c29
            have H := H.2 c29
            refine wp_steps (i' := 101) (ls' := [some (.ref b), w1, some (.int i2), some (.int i3), some (.int (i4 + 1)), some (.int (mx_i h (b + 4) i4.toNatClampNeg))]) (st' := []) (h' := h) (P := True) 1 rfl rfl trivial ?_
            refine wp_J (j := 23) (st' := []) rfl rfl ?_
            exact H _ _
          · have c29 := Int32.not_le.mp c29
            have H := H.1 c29
            refine wp_steps (i' := 80) (ls' := [some (.ref b), w1, some (.int i2), some (.int i3), some (.int i4), some (.int (mx_i h (b + 4) i4.toNatClampNeg))]) (st' := [.int 2, .int i3]) (h' := h) (P := True) 2 rfl rfl trivial ?_
            refine wp_br (P := True) (c := i3 < 2) (t := 100) (st' := []) rfl rfl trivial (fun c30 => ?_) (fun c30 => ?_)
            · skip
              have H := H.1 c30
              refine wp_steps (i' := 101) (ls' := [some (.ref b), w1, some (.int i2), some (.int i3), some (.int (i4 + 1)), some (.int (mx_i h (b + 4) i4.toNatClampNeg))]) (st' := []) (h' := h) (P := True) 1 rfl rfl trivial ?_
              refine wp_J (j := 23) (st' := []) rfl rfl ?_
              exact H _ _
            · skip
              have H := H.2 c30
              obtain ⟨o31, o32, H⟩ := H
              refine wp_steps (i' := 98) (ls' := [some (.ref b), w1, some (.int i2), some (.int (i3 + (-1))), some (.int i4), some (.int (mx_i h (b + 4) i4.toNatClampNeg))]) (st' := [.int (mx_i h (b + 6) (i3 + (-1)).toNatClampNeg), .int (mx_i h (b + 6) ((i3 + (-1)) - 1).toNatClampNeg), .int (mx_i h (b + 4) i4.toNatClampNeg), .int ((i3 + (-1)) - 1), .ref (b + 6)]) (h' := h) (P := ((mxT b).1 = 3 ∧ mxG h) ∧ ((mxT b).1 = 3 ∧ mxG h) ∧ (((mxT (b + 6)).1 = 50 ∧ mxG h) ∧ vp_in ((i3 + (-1)) - 1) (mxT (b + 6)).2) ∧ ((mxT b).1 = 3 ∧ mxG h) ∧ (((mxT (b + 6)).1 = 50 ∧ mxG h) ∧ vp_in (i3 + (-1)) (mxT (b + 6)).2) ∧ True) 17 rfl rfl ⟨⟨(congrArg Prod.fst (sL_0 hVb)), G⟩, ⟨(congrArg Prod.fst (sL_0 hVb)), G⟩, (cA (sL_6 hVb) G o31), ⟨(congrArg Prod.fst (sL_0 hVb)), G⟩, (cA (sL_6 hVb) G o32), trivial⟩ ?_
              refine wp_call (b := false) (y' := 28) (as := [.int (mx_i h (b + 4) i4.toNatClampNeg), .int (mx_i h (b + 6) ((i3 + (-1)) - 1).toNatClampNeg), .int (mx_i h (b + 6) (i3 + (-1)).toNatClampNeg)]) (rest := [.int ((i3 + (-1)) - 1), .ref (b + 6)]) (P := True) rfl (by with_unfolding_all rfl) trivial (Nat.le_of_ble_eq_true rfl) (sp_28 G ?_)
              show mx_wp (d + 1) 27 99 [some (.ref b), w1, some (.int i2), some (.int (i3 + (-1))), some (.int i4), some (.int (mx_i h (b + 4) i4.toNatClampNeg))] [.int (V_28 h (mx_i h (b + 4) i4.toNatClampNeg) (mx_i h (b + 6) ((i3 + (-1)) - 1).toNatClampNeg) (mx_i h (b + 6) (i3 + (-1)).toNatClampNeg)), .int ((i3 + (-1)) - 1), .ref (b + 6)] h Q
              refine wp_steps (i' := 100) (ls' := [some (.ref b), w1, some (.int i2), some (.int (i3 + (-1))), some (.int i4), some (.int (mx_i h (b + 4) i4.toNatClampNeg))]) (st' := []) (h' := mx_wi h (b + 6) ((i3 + (-1)) - 1).toNatClampNeg (V_28 h (mx_i h (b + 4) i4.toNatClampNeg) (mx_i h (b + 6) ((i3 + (-1)) - 1).toNatClampNeg) (mx_i h (b + 6) (i3 + (-1)).toNatClampNeg))) (P := (((mxT (b + 6)).1 = 50 ∧ mxG h) ∧ vp_in ((i3 + (-1)) - 1) (mxT (b + 6)).2) ∧ True) 1 rfl rfl ⟨(cA (sL_6 hVb) G o31), trivial⟩ ?_
              obtain ⟨h33, e34⟩ : ∃ z9, z9 = mx_wi h (b + 6) ((i3 + (-1)) - 1).toNatClampNeg (V_28 h (mx_i h (b + 4) i4.toNatClampNeg) (mx_i h (b + 6) ((i3 + (-1)) - 1).toNatClampNeg) (mx_i h (b + 6) (i3 + (-1)).toNatClampNeg)) := ⟨_, rfl⟩
              rw [← e34]
              have H := H h33 e34
              have G35 : mxG h33 := e34 ▸ mxG_wi G
              refine wp_steps (i' := 101) (ls' := [some (.ref b), w1, some (.int i2), some (.int (i3 + (-1))), some (.int (i4 + 1)), some (.int (mx_i h (b + 4) i4.toNatClampNeg))]) (st' := []) (h' := h33) (P := True) 1 rfl rfl trivial ?_
              refine wp_J (j := 23) (st' := []) rfl rfl ?_
              exact H _ _
        · have c28 := Decidable.of_not_not c28
          have H := H.1 c28
          refine wp_steps (i' := 59) (ls' := [some (.ref b), w1, some (.int i2), some (.int i3), some (.int i4), some (.int (mx_i h (b + 4) i4.toNatClampNeg))]) (st' := [.int 1, .int i3]) (h' := h) (P := True) 2 rfl rfl trivial ?_
          refine wp_br (P := True) (c := i3 < 1) (t := 75) (st' := []) rfl rfl trivial (fun c36 => ?_) (fun c36 => ?_)
          · skip
            have H := H.1 c36
            refine wp_steps (i' := 77) (ls' := [some (.ref b), w1, some (.int i2), some (.int i3), some (.int i4), some (.int (mx_i h (b + 4) i4.toNatClampNeg))]) (st' := [.int 1009, .int (mx_i h (b + 4) i4.toNatClampNeg)]) (h' := h) (P := True) 2 rfl rfl trivial ?_
            refine wp_br (P := True) (c := (mx_i h (b + 4) i4.toNatClampNeg) ≤ 1009) (t := 100) (st' := []) rfl rfl trivial (fun c37 => ?_) (fun c37 => ?_)
            · have c37 := Int32.not_lt.mpr c37
              have H := H.2 c37
              refine wp_steps (i' := 101) (ls' := [some (.ref b), w1, some (.int i2), some (.int i3), some (.int (i4 + 1)), some (.int (mx_i h (b + 4) i4.toNatClampNeg))]) (st' := []) (h' := h) (P := True) 1 rfl rfl trivial ?_
              refine wp_J (j := 23) (st' := []) rfl rfl ?_
              exact H _ _
            · have c37 := Int32.not_le.mp c37
              have H := H.1 c37
              refine wp_steps (i' := 80) (ls' := [some (.ref b), w1, some (.int i2), some (.int i3), some (.int i4), some (.int (mx_i h (b + 4) i4.toNatClampNeg))]) (st' := [.int 2, .int i3]) (h' := h) (P := True) 2 rfl rfl trivial ?_
              refine wp_br (P := True) (c := i3 < 2) (t := 100) (st' := []) rfl rfl trivial (fun c38 => ?_) (fun c38 => ?_)
              · skip
                have H := H.1 c38
                refine wp_steps (i' := 101) (ls' := [some (.ref b), w1, some (.int i2), some (.int i3), some (.int (i4 + 1)), some (.int (mx_i h (b + 4) i4.toNatClampNeg))]) (st' := []) (h' := h) (P := True) 1 rfl rfl trivial ?_
                refine wp_J (j := 23) (st' := []) rfl rfl ?_
                exact H _ _
              · skip
                have H := H.2 c38
                obtain ⟨o39, o40, H⟩ := H
                refine wp_steps (i' := 98) (ls' := [some (.ref b), w1, some (.int i2), some (.int (i3 + (-1))), some (.int i4), some (.int (mx_i h (b + 4) i4.toNatClampNeg))]) (st' := [.int (mx_i h (b + 6) (i3 + (-1)).toNatClampNeg), .int (mx_i h (b + 6) ((i3 + (-1)) - 1).toNatClampNeg), .int (mx_i h (b + 4) i4.toNatClampNeg), .int ((i3 + (-1)) - 1), .ref (b + 6)]) (h' := h) (P := ((mxT b).1 = 3 ∧ mxG h) ∧ ((mxT b).1 = 3 ∧ mxG h) ∧ (((mxT (b + 6)).1 = 50 ∧ mxG h) ∧ vp_in ((i3 + (-1)) - 1) (mxT (b + 6)).2) ∧ ((mxT b).1 = 3 ∧ mxG h) ∧ (((mxT (b + 6)).1 = 50 ∧ mxG h) ∧ vp_in (i3 + (-1)) (mxT (b + 6)).2) ∧ True) 17 rfl rfl ⟨⟨(congrArg Prod.fst (sL_0 hVb)), G⟩, ⟨(congrArg Prod.fst (sL_0 hVb)), G⟩, (cA (sL_6 hVb) G o39), ⟨(congrArg Prod.fst (sL_0 hVb)), G⟩, (cA (sL_6 hVb) G o40), trivial⟩ ?_
                refine wp_call (b := false) (y' := 28) (as := [.int (mx_i h (b + 4) i4.toNatClampNeg), .int (mx_i h (b + 6) ((i3 + (-1)) - 1).toNatClampNeg), .int (mx_i h (b + 6) (i3 + (-1)).toNatClampNeg)]) (rest := [.int ((i3 + (-1)) - 1), .ref (b + 6)]) (P := True) rfl (by with_unfolding_all rfl) trivial (Nat.le_of_ble_eq_true rfl) (sp_28 G ?_)
                show mx_wp (d + 1) 27 99 [some (.ref b), w1, some (.int i2), some (.int (i3 + (-1))), some (.int i4), some (.int (mx_i h (b + 4) i4.toNatClampNeg))] [.int (V_28 h (mx_i h (b + 4) i4.toNatClampNeg) (mx_i h (b + 6) ((i3 + (-1)) - 1).toNatClampNeg) (mx_i h (b + 6) (i3 + (-1)).toNatClampNeg)), .int ((i3 + (-1)) - 1), .ref (b + 6)] h Q
                refine wp_steps (i' := 100) (ls' := [some (.ref b), w1, some (.int i2), some (.int (i3 + (-1))), some (.int i4), some (.int (mx_i h (b + 4) i4.toNatClampNeg))]) (st' := []) (h' := mx_wi h (b + 6) ((i3 + (-1)) - 1).toNatClampNeg (V_28 h (mx_i h (b + 4) i4.toNatClampNeg) (mx_i h (b + 6) ((i3 + (-1)) - 1).toNatClampNeg) (mx_i h (b + 6) (i3 + (-1)).toNatClampNeg))) (P := (((mxT (b + 6)).1 = 50 ∧ mxG h) ∧ vp_in ((i3 + (-1)) - 1) (mxT (b + 6)).2) ∧ True) 1 rfl rfl ⟨(cA (sL_6 hVb) G o39), trivial⟩ ?_
                obtain ⟨h41, e42⟩ : ∃ z9, z9 = mx_wi h (b + 6) ((i3 + (-1)) - 1).toNatClampNeg (V_28 h (mx_i h (b + 4) i4.toNatClampNeg) (mx_i h (b + 6) ((i3 + (-1)) - 1).toNatClampNeg) (mx_i h (b + 6) (i3 + (-1)).toNatClampNeg)) := ⟨_, rfl⟩
                rw [← e42]
                have H := H h41 e42
                have G43 : mxG h41 := e42 ▸ mxG_wi G
                refine wp_steps (i' := 101) (ls' := [some (.ref b), w1, some (.int i2), some (.int (i3 + (-1))), some (.int (i4 + 1)), some (.int (mx_i h (b + 4) i4.toNatClampNeg))]) (st' := []) (h' := h41) (P := True) 1 rfl rfl trivial ?_
                refine wp_J (j := 23) (st' := []) rfl rfl ?_
                exact H _ _
          · skip
            have H := H.2 c36
            obtain ⟨o44, H⟩ := H
            refine wp_steps (i' := 74) (ls' := [some (.ref b), w1, some (.int i2), some (.int i3), some (.int i4), some (.int (mx_i h (b + 4) i4.toNatClampNeg))]) (st' := []) (h' := mx_wi h (b + 6) (i3 - 1).toNatClampNeg (1 - (mx_i h (b + 6) (i3 - 1).toNatClampNeg))) (P := ((mxT b).1 = 3 ∧ mxG h) ∧ ((mxT b).1 = 3 ∧ mxG h) ∧ (((mxT (b + 6)).1 = 50 ∧ mxG h) ∧ vp_in (i3 - 1) (mxT (b + 6)).2) ∧ (((mxT (b + 6)).1 = 50 ∧ mxG h) ∧ vp_in (i3 - 1) (mxT (b + 6)).2) ∧ True) 14 rfl rfl ⟨⟨(congrArg Prod.fst (sL_0 hVb)), G⟩, ⟨(congrArg Prod.fst (sL_0 hVb)), G⟩, (cA (sL_6 hVb) G o44), (cA (sL_6 hVb) G o44), trivial⟩ ?_
            obtain ⟨h45, e46⟩ : ∃ z9, z9 = mx_wi h (b + 6) (i3 - 1).toNatClampNeg (1 - (mx_i h (b + 6) (i3 - 1).toNatClampNeg)) := ⟨_, rfl⟩
            rw [← e46]
            have H := H h45 e46
            have G47 : mxG h45 := e46 ▸ mxG_wi G
            refine wp_J (j := 100) (st' := []) rfl rfl ?_
            refine wp_steps (i' := 101) (ls' := [some (.ref b), w1, some (.int i2), some (.int i3), some (.int (i4 + 1)), some (.int (mx_i h (b + 4) i4.toNatClampNeg))]) (st' := []) (h' := h45) (P := True) 1 rfl rfl trivial ?_
            refine wp_J (j := 23) (st' := []) rfl rfl ?_
            exact H _ _
      · have c27 := Int32.not_le.mp c27
        have H := H.1 c27
        refine wp_steps (i' := 42) (ls' := [some (.ref b), w1, some (.int i2), some (.int i3), some (.int i4), some (.int (mx_i h (b + 4) i4.toNatClampNeg))]) (st' := [.int 1000, .int (mx_i h (b + 4) i4.toNatClampNeg), .int i3, .ref (b + 6)]) (h' := h) (P := ((mxT b).1 = 3 ∧ mxG h) ∧ True) 5 rfl rfl ⟨⟨(congrArg Prod.fst (sL_0 hVb)), G⟩, trivial⟩ ?_
        have J : ∀ (v48 : Int32) (ev48 : v48 = ((if (mx_i h (b + 4) i4.toNatClampNeg) < 1000 then (mx_i h (b + 4) i4.toNatClampNeg) else (mx_i h (b + 5) ((mx_i h (b + 4) i4.toNatClampNeg) - 1000).toNatClampNeg)) : Int32)), mx_wp (d + 1) 27 51 [some (.ref b), w1, some (.int i2), some (.int i3), some (.int i4), some (.int (mx_i h (b + 4) i4.toNatClampNeg))] [.int v48, .int i3, .ref (b + 6)] h Q := by
          intro v48 ev48
          have H := H.2 v48 ev48
          obtain ⟨o49, H⟩ := H
          refine wp_steps (i' := 52) (ls' := [some (.ref b), w1, some (.int i2), some (.int i3), some (.int i4), some (.int (mx_i h (b + 4) i4.toNatClampNeg))]) (st' := []) (h' := mx_wi h (b + 6) i3.toNatClampNeg v48) (P := (((mxT (b + 6)).1 = 50 ∧ mxG h) ∧ vp_in i3 (mxT (b + 6)).2) ∧ True) 1 rfl rfl ⟨(cA (sL_6 hVb) G o49), trivial⟩ ?_
          obtain ⟨h50, e51⟩ : ∃ z9, z9 = mx_wi h (b + 6) i3.toNatClampNeg v48 := ⟨_, rfl⟩
          rw [← e51]
          have H := H h50 e51
          have G52 : mxG h50 := e51 ▸ mxG_wi G
          refine wp_steps (i' := 53) (ls' := [some (.ref b), w1, some (.int i2), some (.int (i3 + 1)), some (.int i4), some (.int (mx_i h (b + 4) i4.toNatClampNeg))]) (st' := []) (h' := h50) (P := True) 1 rfl rfl trivial ?_
          refine wp_J (j := 100) (st' := []) rfl rfl ?_
          refine wp_steps (i' := 101) (ls' := [some (.ref b), w1, some (.int i2), some (.int (i3 + 1)), some (.int (i4 + 1)), some (.int (mx_i h (b + 4) i4.toNatClampNeg))]) (st' := []) (h' := h50) (P := True) 1 rfl rfl trivial ?_
          refine wp_J (j := 23) (st' := []) rfl rfl ?_
          exact H _ _
        have H := H.1
        refine wp_br (P := True) (c := 1000 ≤ (mx_i h (b + 4) i4.toNatClampNeg)) (t := 45) (st' := [.int i3, .ref (b + 6)]) rfl rfl trivial (fun c53 => ?_) (fun c53 => ?_)
        · have c53 := Int32.not_lt.mpr c53
          have H := H.2 c53
          obtain ⟨o54, H⟩ := H
          refine wp_steps (i' := 51) (ls' := [some (.ref b), w1, some (.int i2), some (.int i3), some (.int i4), some (.int (mx_i h (b + 4) i4.toNatClampNeg))]) (st' := [.int (mx_i h (b + 5) ((mx_i h (b + 4) i4.toNatClampNeg) - 1000).toNatClampNeg), .int i3, .ref (b + 6)]) (h' := h) (P := ((mxT b).1 = 3 ∧ mxG h) ∧ (((mxT (b + 5)).1 = 50 ∧ mxG h) ∧ vp_in ((mx_i h (b + 4) i4.toNatClampNeg) - 1000) (mxT (b + 5)).2) ∧ True) 6 rfl rfl ⟨⟨(congrArg Prod.fst (sL_0 hVb)), G⟩, (cA (sL_5 hVb) G o54), trivial⟩ ?_
          exact J _ (by rw [if_neg c53])
        · have c53 := Int32.not_le.mp c53
          refine wp_steps (i' := 44) (ls' := [some (.ref b), w1, some (.int i2), some (.int i3), some (.int i4), some (.int (mx_i h (b + 4) i4.toNatClampNeg))]) (st' := [.int (mx_i h (b + 4) i4.toNatClampNeg), .int i3, .ref (b + 6)]) (h' := h) (P := True) 1 rfl rfl trivial ?_
          refine wp_J (j := 51) (st' := [.int (mx_i h (b + 4) i4.toNatClampNeg), .int i3, .ref (b + 6)]) rfl rfl ?_
          exact J _ (by rw [if_pos c53])
/-! 93: StoneBacks$Tape.isAtEnd()Z -/
set_option maxRecDepth 8000 in
theorem tr_93_0 {d : Nat} {h : mxH} {Q : mxO → mxH → Prop}  (G : mxG h)  (H : (vp_in (mx_i h 101 3) 401 ∧ (∀ (v2 : Int32), v2 = ((if (mx_i h 103 (mx_i h 101 3).toNatClampNeg) = 4 then 1 else 0) : Int32) → Q (.inl (some (.int v2))) h))) : mx_wp d 93 0 (mx_fr 93 [.ref 101]) [] h Q := by
  show mx_wp d 93 0 [some (.ref 101)] [] h Q
  obtain ⟨o1, H⟩ := H
  refine wp_steps (i' := 6) (ls' := [some (.ref 101)]) (st' := [.int 4, .int (mx_i h 103 (mx_i h 101 3).toNatClampNeg)]) (h' := h) (P := ((mxT 101).1 = 8 ∧ mxG h) ∧ ((mxT 101).1 = 8 ∧ mxG h) ∧ (((mxT 103).1 = 50 ∧ mxG h) ∧ vp_in (mx_i h 101 3) (mxT 103).2) ∧ True) 6 rfl rfl ⟨⟨(congrArg Prod.fst sT_101), G⟩, ⟨(congrArg Prod.fst sT_101), G⟩, (cA sT_103 G o1), trivial⟩ ?_
  have J : ∀ (v2 : Int32) (ev2 : v2 = ((if (mx_i h 103 (mx_i h 101 3).toNatClampNeg) = 4 then 1 else 0) : Int32)), mx_wp d 93 10 [some (.ref 101)] [.int v2] h Q := by
    intro v2 ev2
    have H := H v2 ev2
    exact wp_end (o := .inl (some (.int v2))) (h' := h) (P := (v2 = 0 ∨ v2 = 1)) rfl rfl (b01 ev2 (by repeat' (first | exact Or.inl rfl | exact Or.inr rfl | split))) H
  refine wp_br (P := True) (c := ¬ (mx_i h 103 (mx_i h 101 3).toNatClampNeg) = 4) (t := 9) (st' := []) rfl rfl trivial (fun c3 => ?_) (fun c3 => ?_)
  · skip
    refine wp_steps (i' := 10) (ls' := [some (.ref 101)]) (st' := [.int 0]) (h' := h) (P := True) 1 rfl rfl trivial ?_
    exact J _ (by rw [if_neg c3])
  · have c3 := Decidable.of_not_not c3
    refine wp_steps (i' := 8) (ls' := [some (.ref 101)]) (st' := [.int 1]) (h' := h) (P := True) 1 rfl rfl trivial ?_
    refine wp_J (j := 10) (st' := [.int 1]) rfl rfl ?_
    exact J _ (by rw [if_pos c3])
def V_93 (h : mxH) : Int32 := ((if (mx_i h 103 (mx_i h 101 3).toNatClampNeg) = 4 then 1 else 0) : Int32)
theorem sp_93 {d : Nat} {h : mxH} {Q : mxO → mxH → Prop}  (G : mxG h)  (x0 : vp_in (mx_i h 101 3) 401) (k : Q (.inl (some (.int (V_93 h)))) h) : mx_wp d 93 0 (mx_fr 93 [.ref 101]) [] h Q := by
  unfold V_93 at k
  have hob : (vp_in (mx_i h 101 3) 401 ∧ True) := ⟨x0, trivial⟩
  refine tr_93_0 G  ?_
  obtain ⟨q0, hob⟩ := hob
  refine ⟨q0, ?_⟩
  intro v2 ev2
  subst ev2
  exact k
/-! 96: StoneBacks$Tape.takeWord(LStoneBacks$Word;)Z -/
set_option maxRecDepth 8000 in
theorem tr_96_0 {d : Nat} {h : mxH} {Q : mxO → mxH → Prop} {s1 : Nat} (G : mxG h)  (H : (vp_in (mx_i h 101 3) 401 ∧ ((((mx_r h 106 (mx_i h 101 3).toNatClampNeg) = 0 ∨ (3 ≤ (mx_r h 106 (mx_i h 101 3).toNatClampNeg) ∧ (mx_r h 106 (mx_i h 101 3).toNatClampNeg) < 29)) ∧ (s1 = 0 ∨ (3 ≤ s1 ∧ s1 < 29))) ∧ (((mx_r h 106 (mx_i h 101 3).toNatClampNeg) = s1 → (∀ h4, h4 = mx_wi h 101 3 ((mx_i h 101 3) + 1) → Q (.inl (some (.int 1))) h4)) ∧ (¬ (mx_r h 106 (mx_i h 101 3).toNatClampNeg) = s1 → Q (.inl (some (.int 0))) h))))) : mx_wp d 96 0 (mx_fr 96 [.ref 101, .ref s1]) [] h Q := by
  show mx_wp d 96 0 [some (.ref 101), some (.ref s1)] [] h Q
  obtain ⟨o1, H⟩ := H
  refine wp_steps (i' := 6) (ls' := [some (.ref 101), some (.ref s1)]) (st' := [.ref s1, .ref (mx_r h 106 (mx_i h 101 3).toNatClampNeg)]) (h' := h) (P := ((mxT 101).1 = 8 ∧ mxG h) ∧ ((mxT 101).1 = 8 ∧ mxG h) ∧ ((((mxT 106).1 = 53 ∨ (mxT 106).1 = 54) ∧ mxG h) ∧ vp_in (mx_i h 101 3) (mxT 106).2) ∧ True) 6 rfl rfl ⟨⟨(congrArg Prod.fst sT_101), G⟩, ⟨(congrArg Prod.fst sT_101), G⟩, (cW sT_106 (Or.inl rfl) G o1), trivial⟩ ?_
  obtain ⟨o2, H⟩ := H
  refine wp_br (P := (((mx_r h 106 (mx_i h 101 3).toNatClampNeg) = 0 ∨ (3 ≤ (mx_r h 106 (mx_i h 101 3).toNatClampNeg) ∧ (mx_r h 106 (mx_i h 101 3).toNatClampNeg) < 29)) ∧ (s1 = 0 ∨ (3 ≤ s1 ∧ s1 < 29)))) (c := (mx_r h 106 (mx_i h 101 3).toNatClampNeg) = s1) (t := 9) (st' := []) rfl rfl o2 (fun c3 => ?_) (fun c3 => ?_)
  · skip
    have H := H.1 c3
    refine wp_steps (i' := 15) (ls' := [some (.ref 101), some (.ref s1)]) (st' := []) (h' := mx_wi h 101 3 ((mx_i h 101 3) + 1)) (P := ((mxT 101).1 = 8 ∧ mxG h) ∧ ((mxT 101).1 = 8 ∧ mxG h) ∧ True) 6 rfl rfl ⟨⟨(congrArg Prod.fst sT_101), G⟩, ⟨(congrArg Prod.fst sT_101), G⟩, trivial⟩ ?_
    obtain ⟨h4, e5⟩ : ∃ z9, z9 = mx_wi h 101 3 ((mx_i h 101 3) + 1) := ⟨_, rfl⟩
    rw [← e5]
    have H := H h4 e5
    have G6 : mxG h4 := e5 ▸ mxG_wi G
    refine wp_steps (i' := 16) (ls' := [some (.ref 101), some (.ref s1)]) (st' := [.int 1]) (h' := h4) (P := True) 1 rfl rfl trivial ?_
    exact wp_end (o := .inl (some (.int 1))) (h' := h4) (P := ((1 : Int32) = 0 ∨ (1 : Int32) = 1)) rfl rfl (Or.inr rfl) H
  · skip
    have H := H.2 c3
    refine wp_steps (i' := 8) (ls' := [some (.ref 101), some (.ref s1)]) (st' := [.int 0]) (h' := h) (P := True) 1 rfl rfl trivial ?_
    exact wp_end (o := .inl (some (.int 0))) (h' := h) (P := ((0 : Int32) = 0 ∨ (0 : Int32) = 1)) rfl rfl (Or.inl rfl) H
def V_96 (h : mxH) (s1 : Nat) : Int32 := (if (mx_r h 106 (mx_i h 101 3).toNatClampNeg) = s1 then 1 else 0)
def W_96 (h : mxH) (s1 : Nat) : mxH := (if (mx_r h 106 (mx_i h 101 3).toNatClampNeg) = s1 then (mx_wi h 101 3 ((mx_i h 101 3) + 1)) else h)
theorem KW_96 {h : mxH} {s1 : Nat} : mxK h (W_96 h s1) := by
  unfold W_96
  repeat' (first | with_reducible exact mxK_rfl | with_reducible exact mxK_wi | with_reducible exact mxK_wrow | with_reducible refine mxK_ite ?_ ?_ | with_reducible refine mxK_tr ?_ mxK_wi | with_reducible refine mxK_tr ?_ mxK_wrow)
theorem sp_96 {d : Nat} {h : mxH} {Q : mxO → mxH → Prop} {s1 : Nat} (G : mxG h)  (x0 : vp_in (mx_i h 101 3) 401) (x1 : (((mx_r h 106 (mx_i h 101 3).toNatClampNeg) = 0 ∨ (3 ≤ (mx_r h 106 (mx_i h 101 3).toNatClampNeg) ∧ (mx_r h 106 (mx_i h 101 3).toNatClampNeg) < 29)) ∧ (s1 = 0 ∨ (3 ≤ s1 ∧ s1 < 29)))) (k : Q (.inl (some (.int (V_96 h s1)))) (W_96 h s1)) : mx_wp d 96 0 (mx_fr 96 [.ref 101, .ref s1]) [] h Q := by
  unfold V_96 W_96 at k
  have hob : (vp_in (mx_i h 101 3) 401 ∧ ((((mx_r h 106 (mx_i h 101 3).toNatClampNeg) = 0 ∨ (3 ≤ (mx_r h 106 (mx_i h 101 3).toNatClampNeg) ∧ (mx_r h 106 (mx_i h 101 3).toNatClampNeg) < 29)) ∧ (s1 = 0 ∨ (3 ≤ s1 ∧ s1 < 29))) ∧ True)) := ⟨x0, ⟨x1, trivial⟩⟩
  refine tr_96_0 G  ?_
  obtain ⟨q0, hob⟩ := hob
  refine ⟨q0, ?_⟩
  obtain ⟨q0, hob⟩ := hob
  refine ⟨q0, ?_⟩
  refine ⟨fun c9 => ?_, fun c9 => ?_⟩
  · try simp only [if_pos c9] at k
    intro h4 eh4
    subst eh4
    exact k
  · try simp only [if_neg c9] at k
    exact k
/-! 32: StoneBacks$LawText.takeKind(LStoneBacks$Tape;)I -/
set_option maxRecDepth 8000 in
theorem tr_32_0 {d : Nat} {h : mxH} {Q : mxO → mxH → Prop}  (G : mxG h)  (H : (vp_in (mx_i h 101 3) 401 ∧ (((mx_r h 106 (mx_i h 101 3).toNatClampNeg) = 0 ∨ (3 ≤ (mx_r h 106 (mx_i h 101 3).toNatClampNeg) ∧ (mx_r h 106 (mx_i h 101 3).toNatClampNeg) < 29)) ∧ (13 = 0 ∨ (3 ≤ 13 ∧ 13 < 29))) ∧ (∀ h3, h3 = W_96 h 13 → (((V_96 h 13) = 0 → (vp_in (mx_i h3 101 3) 401 ∧ (((mx_r h3 106 (mx_i h3 101 3).toNatClampNeg) = 0 ∨ (3 ≤ (mx_r h3 106 (mx_i h3 101 3).toNatClampNeg) ∧ (mx_r h3 106 (mx_i h3 101 3).toNatClampNeg) < 29)) ∧ (14 = 0 ∨ (3 ≤ 14 ∧ 14 < 29))) ∧ (∀ h10, h10 = W_96 h3 14 → (((V_96 h3 14) = 0 → (vp_in (mx_i h10 101 3) 401 ∧ (((mx_r h10 106 (mx_i h10 101 3).toNatClampNeg) = 0 ∨ (3 ≤ (mx_r h10 106 (mx_i h10 101 3).toNatClampNeg) ∧ (mx_r h10 106 (mx_i h10 101 3).toNatClampNeg) < 29)) ∧ (15 = 0 ∨ (3 ≤ 15 ∧ 15 < 29))) ∧ (∀ h17, h17 = W_96 h10 15 → (∀ (v21 : Int32), v21 = ((if (V_96 h10 15) = 0 then (-1) else 2) : Int32) → Q (.inl (some (.int v21))) h17)))) ∧ (¬ (V_96 h3 14) = 0 → Q (.inl (some (.int 1))) h10))))) ∧ (¬ (V_96 h 13) = 0 → Q (.inl (some (.int 0))) h3))))) : mx_wp (d + 1) 32 0 (mx_fr 32 [.ref 101]) [] h Q := by
  show mx_wp (d + 1) 32 0 [some (.ref 101)] [] h Q
  refine wp_steps (i' := 2) (ls' := [some (.ref 101)]) (st' := [.ref 13, .ref 101]) (h' := h) (P := True) 2 rfl rfl trivial ?_
  obtain ⟨o1, o2, H⟩ := H
  refine wp_call (b := false) (y' := 96) (as := [.ref 101, .ref 13]) (rest := []) (P := ((mxT 101).1 = mxRc 96 ∧ mxG h)) rfl (by with_unfolding_all rfl) ⟨(congrArg Prod.fst sT_101), G⟩ (Nat.le_of_ble_eq_true rfl) (sp_96 G o1 o2 ?_)
  show mx_wp (d + 1) 32 3 [some (.ref 101)] [.int (V_96 h 13)] (W_96 h 13) Q
  obtain ⟨h3, e4⟩ : ∃ z9, z9 = W_96 h 13 := ⟨_, rfl⟩
  rw [← e4]
  have H := H h3 e4
  have K6 : mxK h h3 := e4 ▸ KW_96
  have G5 : mxG h3 := mxK_G K6 G
  refine wp_br (P := True) (c := (V_96 h 13) = 0) (t := 6) (st' := []) rfl rfl trivial (fun c7 => ?_) (fun c7 => ?_)
  · skip
    have H := H.1 c7
    refine wp_steps (i' := 8) (ls' := [some (.ref 101)]) (st' := [.ref 14, .ref 101]) (h' := h3) (P := True) 2 rfl rfl trivial ?_
    obtain ⟨o8, o9, H⟩ := H
    refine wp_call (b := false) (y' := 96) (as := [.ref 101, .ref 14]) (rest := []) (P := ((mxT 101).1 = mxRc 96 ∧ mxG h3)) rfl (by with_unfolding_all rfl) ⟨(congrArg Prod.fst sT_101), G5⟩ (Nat.le_of_ble_eq_true rfl) (sp_96 G5 o8 o9 ?_)
    show mx_wp (d + 1) 32 9 [some (.ref 101)] [.int (V_96 h3 14)] (W_96 h3 14) Q
    obtain ⟨h10, e11⟩ : ∃ z9, z9 = W_96 h3 14 := ⟨_, rfl⟩
    rw [← e11]
    have H := H h10 e11
    have K13 : mxK h3 h10 := e11 ▸ KW_96
    have G12 : mxG h10 := mxK_G K13 G5
    refine wp_br (P := True) (c := (V_96 h3 14) = 0) (t := 12) (st' := []) rfl rfl trivial (fun c14 => ?_) (fun c14 => ?_)
    · skip
      have H := H.1 c14
      refine wp_steps (i' := 14) (ls' := [some (.ref 101)]) (st' := [.ref 15, .ref 101]) (h' := h10) (P := True) 2 rfl rfl trivial ?_
      obtain ⟨o15, o16, H⟩ := H
      refine wp_call (b := false) (y' := 96) (as := [.ref 101, .ref 15]) (rest := []) (P := ((mxT 101).1 = mxRc 96 ∧ mxG h10)) rfl (by with_unfolding_all rfl) ⟨(congrArg Prod.fst sT_101), G12⟩ (Nat.le_of_ble_eq_true rfl) (sp_96 G12 o15 o16 ?_)
      show mx_wp (d + 1) 32 15 [some (.ref 101)] [.int (V_96 h10 15)] (W_96 h10 15) Q
      obtain ⟨h17, e18⟩ : ∃ z9, z9 = W_96 h10 15 := ⟨_, rfl⟩
      rw [← e18]
      have H := H h17 e18
      have K20 : mxK h10 h17 := e18 ▸ KW_96
      have G19 : mxG h17 := mxK_G K20 G12
      have J : ∀ (v21 : Int32) (ev21 : v21 = ((if (V_96 h10 15) = 0 then (-1) else 2) : Int32)), mx_wp (d + 1) 32 19 [some (.ref 101)] [.int v21] h17 Q := by
        intro v21 ev21
        have H := H v21 ev21
        exact wp_end (o := .inl (some (.int v21))) (h' := h17) (P := True) rfl rfl trivial H
      refine wp_br (P := True) (c := (V_96 h10 15) = 0) (t := 18) (st' := []) rfl rfl trivial (fun c22 => ?_) (fun c22 => ?_)
      · skip
        refine wp_steps (i' := 19) (ls' := [some (.ref 101)]) (st' := [.int (-1)]) (h' := h17) (P := True) 1 rfl rfl trivial ?_
        exact J _ (by rw [if_pos c22])
      · skip
        refine wp_steps (i' := 17) (ls' := [some (.ref 101)]) (st' := [.int 2]) (h' := h17) (P := True) 1 rfl rfl trivial ?_
        refine wp_J (j := 19) (st' := [.int 2]) rfl rfl ?_
        exact J _ (by rw [if_neg c22])
    · skip
      have H := H.2 c14
      refine wp_steps (i' := 11) (ls' := [some (.ref 101)]) (st' := [.int 1]) (h' := h10) (P := True) 1 rfl rfl trivial ?_
      exact wp_end (o := .inl (some (.int 1))) (h' := h10) (P := True) rfl rfl trivial H
  · skip
    have H := H.2 c7
    refine wp_steps (i' := 5) (ls' := [some (.ref 101)]) (st' := [.int 0]) (h' := h3) (P := True) 1 rfl rfl trivial ?_
    exact wp_end (o := .inl (some (.int 0))) (h' := h3) (P := True) rfl rfl trivial H
def V_32 (h : mxH) : Int32 := (if (V_96 h 13) = 0 then (if (V_96 (W_96 h 13) 14) = 0 then ((if (V_96 (W_96 (W_96 h 13) 14) 15) = 0 then (-1) else 2) : Int32) else 1) else 0)
def W_32 (h : mxH) : mxH := (if (V_96 h 13) = 0 then (if (V_96 (W_96 h 13) 14) = 0 then (W_96 (W_96 (W_96 h 13) 14) 15) else (W_96 (W_96 h 13) 14)) else (W_96 h 13))
theorem KW_32 {h : mxH} : mxK h (W_32 h) := by
  unfold W_32
  repeat' (first | with_reducible exact mxK_rfl | with_reducible exact mxK_wi | with_reducible exact mxK_wrow | with_reducible refine mxK_ite ?_ ?_ | with_reducible refine mxK_tr ?_ mxK_wi | with_reducible refine mxK_tr ?_ mxK_wrow | with_reducible exact KW_96 | with_reducible refine mxK_tr ?_ KW_96)
theorem sp_32 {d : Nat} {h : mxH} {Q : mxO → mxH → Prop}  (G : mxG h)  (x0 : vp_in (mx_i h 101 3) 401) (x1 : (((mx_r h 106 (mx_i h 101 3).toNatClampNeg) = 0 ∨ (3 ≤ (mx_r h 106 (mx_i h 101 3).toNatClampNeg) ∧ (mx_r h 106 (mx_i h 101 3).toNatClampNeg) < 29)) ∧ (13 = 0 ∨ (3 ≤ 13 ∧ 13 < 29)))) (x2 : (((V_96 h 13) = 0 → (vp_in (mx_i (W_96 h 13) 101 3) 401 ∧ (((mx_r (W_96 h 13) 106 (mx_i (W_96 h 13) 101 3).toNatClampNeg) = 0 ∨ (3 ≤ (mx_r (W_96 h 13) 106 (mx_i (W_96 h 13) 101 3).toNatClampNeg) ∧ (mx_r (W_96 h 13) 106 (mx_i (W_96 h 13) 101 3).toNatClampNeg) < 29)) ∧ (14 = 0 ∨ (3 ≤ 14 ∧ 14 < 29))) ∧ (((V_96 (W_96 h 13) 14) = 0 → (vp_in (mx_i (W_96 (W_96 h 13) 14) 101 3) 401 ∧ (((mx_r (W_96 (W_96 h 13) 14) 106 (mx_i (W_96 (W_96 h 13) 14) 101 3).toNatClampNeg) = 0 ∨ (3 ≤ (mx_r (W_96 (W_96 h 13) 14) 106 (mx_i (W_96 (W_96 h 13) 14) 101 3).toNatClampNeg) ∧ (mx_r (W_96 (W_96 h 13) 14) 106 (mx_i (W_96 (W_96 h 13) 14) 101 3).toNatClampNeg) < 29)) ∧ (15 = 0 ∨ (3 ≤ 15 ∧ 15 < 29))) ∧ True)) ∧ (¬ (V_96 (W_96 h 13) 14) = 0 → True)))) ∧ (¬ (V_96 h 13) = 0 → True))) (k : Q (.inl (some (.int (V_32 h)))) (W_32 h)) : mx_wp (d + 1) 32 0 (mx_fr 32 [.ref 101]) [] h Q := by
  unfold V_32 W_32 at k
  have hob : (vp_in (mx_i h 101 3) 401 ∧ (((mx_r h 106 (mx_i h 101 3).toNatClampNeg) = 0 ∨ (3 ≤ (mx_r h 106 (mx_i h 101 3).toNatClampNeg) ∧ (mx_r h 106 (mx_i h 101 3).toNatClampNeg) < 29)) ∧ (13 = 0 ∨ (3 ≤ 13 ∧ 13 < 29))) ∧ (((V_96 h 13) = 0 → (vp_in (mx_i (W_96 h 13) 101 3) 401 ∧ (((mx_r (W_96 h 13) 106 (mx_i (W_96 h 13) 101 3).toNatClampNeg) = 0 ∨ (3 ≤ (mx_r (W_96 h 13) 106 (mx_i (W_96 h 13) 101 3).toNatClampNeg) ∧ (mx_r (W_96 h 13) 106 (mx_i (W_96 h 13) 101 3).toNatClampNeg) < 29)) ∧ (14 = 0 ∨ (3 ≤ 14 ∧ 14 < 29))) ∧ (((V_96 (W_96 h 13) 14) = 0 → (vp_in (mx_i (W_96 (W_96 h 13) 14) 101 3) 401 ∧ (((mx_r (W_96 (W_96 h 13) 14) 106 (mx_i (W_96 (W_96 h 13) 14) 101 3).toNatClampNeg) = 0 ∨ (3 ≤ (mx_r (W_96 (W_96 h 13) 14) 106 (mx_i (W_96 (W_96 h 13) 14) 101 3).toNatClampNeg) ∧ (mx_r (W_96 (W_96 h 13) 14) 106 (mx_i (W_96 (W_96 h 13) 14) 101 3).toNatClampNeg) < 29)) ∧ (15 = 0 ∨ (3 ≤ 15 ∧ 15 < 29))) ∧ True)) ∧ (¬ (V_96 (W_96 h 13) 14) = 0 → True)))) ∧ (¬ (V_96 h 13) = 0 → True))) := ⟨x0, x1, x2⟩
  refine tr_32_0 G  ?_
  obtain ⟨q0, q1, hob⟩ := hob
  refine ⟨q0, q1, ?_⟩
  intro h3 eh3
  subst eh3
  refine ⟨fun c9 => ?_, fun c9 => ?_⟩
  · try simp only [if_pos c9] at k
    have hob := hob.1 c9
    obtain ⟨q0, q1, hob⟩ := hob
    refine ⟨q0, q1, ?_⟩
    intro h10 eh10
    subst eh10
    refine ⟨fun c9 => ?_, fun c9 => ?_⟩
    · try simp only [if_pos c9] at k
      have hob := hob.1 c9
      obtain ⟨q0, q1, hob⟩ := hob
      refine ⟨q0, q1, ?_⟩
      intro h17 eh17
      subst eh17
      intro v21 ev21
      subst ev21
      exact k
    · try simp only [if_neg c9] at k
      have hob := hob.2 c9
      exact k
  · try simp only [if_neg c9] at k
    have hob := hob.2 c9
    exact k
/-! 99: StoneBacks$Tape.numberNext()I -/
def H_99_24 (d : Nat) (h : mxH) (i1 : Int32) (i2 : Int32) (Q : mxO → mxH → Prop) : Prop := mx_wp d 99 24 [some (.ref 101), some (.int i1), some (.int i2)] [] h Q
set_option maxRecDepth 8000 in
theorem tr_99_0 {d : Nat} {h : mxH} {Q : mxO → mxH → Prop}  (G : mxG h)  (H : (vp_in (mx_i h 101 3) 401 ∧ (((mx_i h 103 (mx_i h 101 3).toNatClampNeg) = 2 → ((3 < (mx_i h 105 (mx_i h 101 3).toNatClampNeg) → Q (.inl (some (.int (-1)))) h) ∧ (¬ 3 < (mx_i h 105 (mx_i h 101 3).toNatClampNeg) → H_99_24 d h 0 (mx_i h 104 (mx_i h 101 3).toNatClampNeg) Q))) ∧ (¬ (mx_i h 103 (mx_i h 101 3).toNatClampNeg) = 2 → Q (.inl (some (.int (-1)))) h)))) : mx_wp d 99 0 (mx_fr 99 [.ref 101]) [] h Q := by
  show mx_wp d 99 0 [some (.ref 101), none, none] [] h Q
  obtain ⟨o1, H⟩ := H
  refine wp_steps (i' := 6) (ls' := [some (.ref 101), none, none]) (st' := [.int 2, .int (mx_i h 103 (mx_i h 101 3).toNatClampNeg)]) (h' := h) (P := ((mxT 101).1 = 8 ∧ mxG h) ∧ ((mxT 101).1 = 8 ∧ mxG h) ∧ (((mxT 103).1 = 50 ∧ mxG h) ∧ vp_in (mx_i h 101 3) (mxT 103).2) ∧ True) 6 rfl rfl ⟨⟨(congrArg Prod.fst sT_101), G⟩, ⟨(congrArg Prod.fst sT_101), G⟩, (cA sT_103 G o1), trivial⟩ ?_
  refine wp_br (P := True) (c := ¬ (mx_i h 103 (mx_i h 101 3).toNatClampNeg) = 2) (t := 14) (st' := []) rfl rfl trivial (fun c2 => ?_) (fun c2 => ?_)
  · skip
    have H := H.2 c2
    refine wp_steps (i' := 15) (ls' := [some (.ref 101), none, none]) (st' := [.int (-1)]) (h' := h) (P := True) 1 rfl rfl trivial ?_
    exact wp_end (o := .inl (some (.int (-1)))) (h' := h) (P := True) rfl rfl trivial H
  · have c2 := Decidable.of_not_not c2
    have H := H.1 c2
    refine wp_steps (i' := 13) (ls' := [some (.ref 101), none, none]) (st' := [.int 3, .int (mx_i h 105 (mx_i h 101 3).toNatClampNeg)]) (h' := h) (P := ((mxT 101).1 = 8 ∧ mxG h) ∧ ((mxT 101).1 = 8 ∧ mxG h) ∧ (((mxT 105).1 = 50 ∧ mxG h) ∧ vp_in (mx_i h 101 3) (mxT 105).2) ∧ True) 6 rfl rfl ⟨⟨(congrArg Prod.fst sT_101), G⟩, ⟨(congrArg Prod.fst sT_101), G⟩, (cA sT_105 G o1), trivial⟩ ?_
    refine wp_br (P := True) (c := (mx_i h 105 (mx_i h 101 3).toNatClampNeg) ≤ 3) (t := 16) (st' := []) rfl rfl trivial (fun c3 => ?_) (fun c3 => ?_)
    · have c3 := Int32.not_lt.mpr c3
      have H := H.2 c3
      refine wp_steps (i' := 24) (ls' := [some (.ref 101), some (.int 0), some (.int (mx_i h 104 (mx_i h 101 3).toNatClampNeg))]) (st' := []) (h' := h) (P := ((mxT 101).1 = 8 ∧ mxG h) ∧ ((mxT 101).1 = 8 ∧ mxG h) ∧ (((mxT 104).1 = 50 ∧ mxG h) ∧ vp_in (mx_i h 101 3) (mxT 104).2) ∧ True) 8 rfl rfl ⟨⟨(congrArg Prod.fst sT_101), G⟩, ⟨(congrArg Prod.fst sT_101), G⟩, (cA sT_104 G o1), trivial⟩ ?_
      exact H 
    · have c3 := Int32.not_le.mp c3
      have H := H.1 c3
      refine wp_steps (i' := 15) (ls' := [some (.ref 101), none, none]) (st' := [.int (-1)]) (h' := h) (P := True) 1 rfl rfl trivial ?_
      exact wp_end (o := .inl (some (.int (-1)))) (h' := h) (P := True) rfl rfl trivial H
set_option maxRecDepth 8000 in
theorem tr_99_24 {d : Nat} {h : mxH} {Q : mxO → mxH → Prop}  {i1 : Int32} {i2 : Int32} (G : mxG h)  (H : (vp_in (mx_i h 101 3) 401 ∧ ((i2 < ((mx_i h 104 (mx_i h 101 3).toNatClampNeg) + (mx_i h 105 (mx_i h 101 3).toNatClampNeg)) → (vp_in i2 400 ∧ H_99_24 d h (((10 * i1) + (mx_i h 102 i2.toNatClampNeg)) - 48) (i2 + 1) Q)) ∧ (¬ i2 < ((mx_i h 104 (mx_i h 101 3).toNatClampNeg) + (mx_i h 105 (mx_i h 101 3).toNatClampNeg)) → Q (.inl (some (.int i1))) h)))) : H_99_24 d h i1 i2 Q := by
  show mx_wp d 99 24 [some (.ref 101), some (.int i1), some (.int i2)] [] h Q
  obtain ⟨o1, H⟩ := H
  refine wp_steps (i' := 36) (ls' := [some (.ref 101), some (.int i1), some (.int i2)]) (st' := [.int ((mx_i h 104 (mx_i h 101 3).toNatClampNeg) + (mx_i h 105 (mx_i h 101 3).toNatClampNeg)), .int i2]) (h' := h) (P := ((mxT 101).1 = 8 ∧ mxG h) ∧ ((mxT 101).1 = 8 ∧ mxG h) ∧ (((mxT 104).1 = 50 ∧ mxG h) ∧ vp_in (mx_i h 101 3) (mxT 104).2) ∧ ((mxT 101).1 = 8 ∧ mxG h) ∧ ((mxT 101).1 = 8 ∧ mxG h) ∧ (((mxT 105).1 = 50 ∧ mxG h) ∧ vp_in (mx_i h 101 3) (mxT 105).2) ∧ True) 12 rfl rfl ⟨⟨(congrArg Prod.fst sT_101), G⟩, ⟨(congrArg Prod.fst sT_101), G⟩, (cA sT_104 G o1), ⟨(congrArg Prod.fst sT_101), G⟩, ⟨(congrArg Prod.fst sT_101), G⟩, (cA sT_105 G o1), trivial⟩ ?_
  refine wp_br (P := True) (c := ((mx_i h 104 (mx_i h 101 3).toNatClampNeg) + (mx_i h 105 (mx_i h 101 3).toNatClampNeg)) ≤ i2) (t := 50) (st' := []) rfl rfl trivial (fun c2 => ?_) (fun c2 => ?_)
  · have c2 := Int32.not_lt.mpr c2
    have H := H.2 c2
    refine wp_steps (i' := 51) (ls' := [some (.ref 101), some (.int i1), some (.int i2)]) (st' := [.int i1]) (h' := h) (P := True) 1 rfl rfl trivial ?_
    exact wp_end (o := .inl (some (.int i1))) (h' := h) (P := True) rfl rfl trivial H
  · have c2 := Int32.not_le.mp c2
    have H := H.1 c2
    obtain ⟨o3, H⟩ := H
    refine wp_steps (i' := 49) (ls' := [some (.ref 101), some (.int (((10 * i1) + (mx_i h 102 i2.toNatClampNeg)) - 48)), some (.int (i2 + 1))]) (st' := []) (h' := h) (P := ((mxT 101).1 = 8 ∧ mxG h) ∧ (((mxT 102).1 = 51 ∧ mxG h) ∧ vp_in i2 (mxT 102).2) ∧ True) 12 rfl rfl ⟨⟨(congrArg Prod.fst sT_101), G⟩, (cA sT_102 G o3), trivial⟩ ?_
    refine wp_J (j := 24) (st' := []) rfl rfl ?_
    exact H 
/-! 95: StoneBacks$Tape.isWord(LStoneBacks$Word;)Z -/
set_option maxRecDepth 8000 in
theorem tr_95_0 {d : Nat} {h : mxH} {Q : mxO → mxH → Prop} {s1 : Nat} (G : mxG h)  (H : (vp_in (mx_i h 101 3) 401 ∧ (((((mx_r h 106 (mx_i h 101 3).toNatClampNeg) = 0 ∨ (3 ≤ (mx_r h 106 (mx_i h 101 3).toNatClampNeg) ∧ (mx_r h 106 (mx_i h 101 3).toNatClampNeg) < 29)) ∧ (s1 = 0 ∨ (3 ≤ s1 ∧ s1 < 29))) ∧ True) ∧ (∀ (v2 : Int32), v2 = ((if (mx_r h 106 (mx_i h 101 3).toNatClampNeg) = s1 then 1 else 0) : Int32) → Q (.inl (some (.int v2))) h)))) : mx_wp d 95 0 (mx_fr 95 [.ref 101, .ref s1]) [] h Q := by
  show mx_wp d 95 0 [some (.ref 101), some (.ref s1)] [] h Q
  obtain ⟨o1, H⟩ := H
  refine wp_steps (i' := 6) (ls' := [some (.ref 101), some (.ref s1)]) (st' := [.ref s1, .ref (mx_r h 106 (mx_i h 101 3).toNatClampNeg)]) (h' := h) (P := ((mxT 101).1 = 8 ∧ mxG h) ∧ ((mxT 101).1 = 8 ∧ mxG h) ∧ ((((mxT 106).1 = 53 ∨ (mxT 106).1 = 54) ∧ mxG h) ∧ vp_in (mx_i h 101 3) (mxT 106).2) ∧ True) 6 rfl rfl ⟨⟨(congrArg Prod.fst sT_101), G⟩, ⟨(congrArg Prod.fst sT_101), G⟩, (cW sT_106 (Or.inl rfl) G o1), trivial⟩ ?_
  have J : ∀ (v2 : Int32) (ev2 : v2 = ((if (mx_r h 106 (mx_i h 101 3).toNatClampNeg) = s1 then 1 else 0) : Int32)), mx_wp d 95 10 [some (.ref 101), some (.ref s1)] [.int v2] h Q := by
    intro v2 ev2
    have H := H.2 v2 ev2
    exact wp_end (o := .inl (some (.int v2))) (h' := h) (P := (v2 = 0 ∨ v2 = 1)) rfl rfl (b01 ev2 (by repeat' (first | exact Or.inl rfl | exact Or.inr rfl | split))) H
  have H := H.1
  obtain ⟨o3, H⟩ := H
  refine wp_br (P := (((mx_r h 106 (mx_i h 101 3).toNatClampNeg) = 0 ∨ (3 ≤ (mx_r h 106 (mx_i h 101 3).toNatClampNeg) ∧ (mx_r h 106 (mx_i h 101 3).toNatClampNeg) < 29)) ∧ (s1 = 0 ∨ (3 ≤ s1 ∧ s1 < 29)))) (c := ¬ (mx_r h 106 (mx_i h 101 3).toNatClampNeg) = s1) (t := 9) (st' := []) rfl rfl o3 (fun c4 => ?_) (fun c4 => ?_)
  · skip
    refine wp_steps (i' := 10) (ls' := [some (.ref 101), some (.ref s1)]) (st' := [.int 0]) (h' := h) (P := True) 1 rfl rfl trivial ?_
    exact J _ (by rw [if_neg c4])
  · have c4 := Decidable.of_not_not c4
    refine wp_steps (i' := 8) (ls' := [some (.ref 101), some (.ref s1)]) (st' := [.int 1]) (h' := h) (P := True) 1 rfl rfl trivial ?_
    refine wp_J (j := 10) (st' := [.int 1]) rfl rfl ?_
    exact J _ (by rw [if_pos c4])
def V_95 (h : mxH) (s1 : Nat) : Int32 := ((if (mx_r h 106 (mx_i h 101 3).toNatClampNeg) = s1 then 1 else 0) : Int32)
theorem sp_95 {d : Nat} {h : mxH} {Q : mxO → mxH → Prop} {s1 : Nat} (G : mxG h)  (x0 : vp_in (mx_i h 101 3) 401) (x1 : ((((mx_r h 106 (mx_i h 101 3).toNatClampNeg) = 0 ∨ (3 ≤ (mx_r h 106 (mx_i h 101 3).toNatClampNeg) ∧ (mx_r h 106 (mx_i h 101 3).toNatClampNeg) < 29)) ∧ (s1 = 0 ∨ (3 ≤ s1 ∧ s1 < 29))) ∧ True)) (k : Q (.inl (some (.int (V_95 h s1)))) h) : mx_wp d 95 0 (mx_fr 95 [.ref 101, .ref s1]) [] h Q := by
  unfold V_95 at k
  have hob : (vp_in (mx_i h 101 3) 401 ∧ (((((mx_r h 106 (mx_i h 101 3).toNatClampNeg) = 0 ∨ (3 ≤ (mx_r h 106 (mx_i h 101 3).toNatClampNeg) ∧ (mx_r h 106 (mx_i h 101 3).toNatClampNeg) < 29)) ∧ (s1 = 0 ∨ (3 ≤ s1 ∧ s1 < 29))) ∧ True) ∧ True)) := ⟨x0, ⟨x1, trivial⟩⟩
  refine tr_95_0 G  ?_
  obtain ⟨q0, hob⟩ := hob
  refine ⟨q0, ?_⟩
  obtain ⟨q0, hob⟩ := hob
  refine ⟨q0, ?_⟩
  intro v2 ev2
  subst ev2
  exact k
/-! 97: StoneBacks$Tape.isSign(C)Z -/
set_option maxRecDepth 8000 in
theorem tr_97_0 {d : Nat} {h : mxH} {Q : mxO → mxH → Prop} {i1 : Int32} (G : mxG h)  (H : (vp_in (mx_i h 101 3) 401 ∧ ((((mx_i h 103 (mx_i h 101 3).toNatClampNeg) = 1 → (vp_in (mx_i h 104 (mx_i h 101 3).toNatClampNeg) 400 ∧ True)) ∧ (¬ (mx_i h 103 (mx_i h 101 3).toNatClampNeg) = 1 → True)) ∧ (∀ (v2 : Int32), v2 = ((if (mx_i h 103 (mx_i h 101 3).toNatClampNeg) = 1 then (if (mx_i h 102 (mx_i h 104 (mx_i h 101 3).toNatClampNeg).toNatClampNeg) = i1 then 1 else 0) else 0) : Int32) → Q (.inl (some (.int v2))) h)))) : mx_wp d 97 0 (mx_fr 97 [.ref 101, .int i1]) [] h Q := by
  show mx_wp d 97 0 [some (.ref 101), some (.int i1)] [] h Q
  obtain ⟨o1, H⟩ := H
  refine wp_steps (i' := 6) (ls' := [some (.ref 101), some (.int i1)]) (st' := [.int 1, .int (mx_i h 103 (mx_i h 101 3).toNatClampNeg)]) (h' := h) (P := ((mxT 101).1 = 8 ∧ mxG h) ∧ ((mxT 101).1 = 8 ∧ mxG h) ∧ (((mxT 103).1 = 50 ∧ mxG h) ∧ vp_in (mx_i h 101 3) (mxT 103).2) ∧ True) 6 rfl rfl ⟨⟨(congrArg Prod.fst sT_101), G⟩, ⟨(congrArg Prod.fst sT_101), G⟩, (cA sT_103 G o1), trivial⟩ ?_
  have J : ∀ (v2 : Int32) (ev2 : v2 = ((if (mx_i h 103 (mx_i h 101 3).toNatClampNeg) = 1 then (if (mx_i h 102 (mx_i h 104 (mx_i h 101 3).toNatClampNeg).toNatClampNeg) = i1 then 1 else 0) else 0) : Int32)), mx_wp d 97 20 [some (.ref 101), some (.int i1)] [.int v2] h Q := by
    intro v2 ev2
    have H := H.2 v2 ev2
    exact wp_end (o := .inl (some (.int v2))) (h' := h) (P := (v2 = 0 ∨ v2 = 1)) rfl rfl (b01 ev2 (by repeat' (first | exact Or.inl rfl | exact Or.inr rfl | split))) H
  have H := H.1
  refine wp_br (P := True) (c := ¬ (mx_i h 103 (mx_i h 101 3).toNatClampNeg) = 1) (t := 19) (st' := []) rfl rfl trivial (fun c3 => ?_) (fun c3 => ?_)
  · skip
    refine wp_steps (i' := 20) (ls' := [some (.ref 101), some (.int i1)]) (st' := [.int 0]) (h' := h) (P := True) 1 rfl rfl trivial ?_
    exact J _ (by rw [if_neg c3])
  · have c3 := Decidable.of_not_not c3
    have H := H.1 c3
    obtain ⟨o4, H⟩ := H
    refine wp_steps (i' := 16) (ls' := [some (.ref 101), some (.int i1)]) (st' := [.int i1, .int (mx_i h 102 (mx_i h 104 (mx_i h 101 3).toNatClampNeg).toNatClampNeg)]) (h' := h) (P := ((mxT 101).1 = 8 ∧ mxG h) ∧ ((mxT 101).1 = 8 ∧ mxG h) ∧ ((mxT 101).1 = 8 ∧ mxG h) ∧ (((mxT 104).1 = 50 ∧ mxG h) ∧ vp_in (mx_i h 101 3) (mxT 104).2) ∧ (((mxT 102).1 = 51 ∧ mxG h) ∧ vp_in (mx_i h 104 (mx_i h 101 3).toNatClampNeg) (mxT 102).2) ∧ True) 9 rfl rfl ⟨⟨(congrArg Prod.fst sT_101), G⟩, ⟨(congrArg Prod.fst sT_101), G⟩, ⟨(congrArg Prod.fst sT_101), G⟩, (cA sT_104 G o1), (cA sT_102 G o4), trivial⟩ ?_
    refine wp_br (P := True) (c := ¬ (mx_i h 102 (mx_i h 104 (mx_i h 101 3).toNatClampNeg).toNatClampNeg) = i1) (t := 19) (st' := []) rfl rfl trivial (fun c5 => ?_) (fun c5 => ?_)
    · skip
      refine wp_steps (i' := 20) (ls' := [some (.ref 101), some (.int i1)]) (st' := [.int 0]) (h' := h) (P := True) 1 rfl rfl trivial ?_
      exact J _ (by rw [if_pos c3, if_neg c5])
    · have c5 := Decidable.of_not_not c5
      refine wp_steps (i' := 18) (ls' := [some (.ref 101), some (.int i1)]) (st' := [.int 1]) (h' := h) (P := True) 1 rfl rfl trivial ?_
      refine wp_J (j := 20) (st' := [.int 1]) rfl rfl ?_
      exact J _ (by rw [if_pos c3, if_pos c5])
def V_97 (h : mxH) (i1 : Int32) : Int32 := ((if (mx_i h 103 (mx_i h 101 3).toNatClampNeg) = 1 then (if (mx_i h 102 (mx_i h 104 (mx_i h 101 3).toNatClampNeg).toNatClampNeg) = i1 then 1 else 0) else 0) : Int32)
theorem sp_97 {d : Nat} {h : mxH} {Q : mxO → mxH → Prop} {i1 : Int32} (G : mxG h)  (x0 : vp_in (mx_i h 101 3) 401) (x1 : (((mx_i h 103 (mx_i h 101 3).toNatClampNeg) = 1 → (vp_in (mx_i h 104 (mx_i h 101 3).toNatClampNeg) 400 ∧ True)) ∧ (¬ (mx_i h 103 (mx_i h 101 3).toNatClampNeg) = 1 → True))) (k : Q (.inl (some (.int (V_97 h i1)))) h) : mx_wp d 97 0 (mx_fr 97 [.ref 101, .int i1]) [] h Q := by
  unfold V_97 at k
  have hob : (vp_in (mx_i h 101 3) 401 ∧ ((((mx_i h 103 (mx_i h 101 3).toNatClampNeg) = 1 → (vp_in (mx_i h 104 (mx_i h 101 3).toNatClampNeg) 400 ∧ True)) ∧ (¬ (mx_i h 103 (mx_i h 101 3).toNatClampNeg) = 1 → True)) ∧ True)) := ⟨x0, ⟨x1, trivial⟩⟩
  refine tr_97_0 G  ?_
  obtain ⟨q0, hob⟩ := hob
  refine ⟨q0, ?_⟩
  obtain ⟨q0, hob⟩ := hob
  refine ⟨q0, ?_⟩
  intro v2 ev2
  subst ev2
  exact k
/-! 37: StoneBacks$LawText.push(I)V -/
set_option maxRecDepth 8000 in
theorem tr_37_0 {d : Nat} {h : mxH} {Q : mxO → mxH → Prop} {i1 : Int32} (G : mxG h)  (H : (((mx_i h 107 1) < 64 → (vp_in (mx_i h 107 1) 64 ∧ (∀ h3, h3 = mx_wi h 108 (mx_i h 107 1).toNatClampNeg i1 → (∀ h6, h6 = mx_wi h3 107 1 ((mx_i h3 107 1) + 1) → Q (.inl none) h6)))) ∧ (¬ (mx_i h 107 1) < 64 → Q (.inl none) h))) : mx_wp d 37 0 (mx_fr 37 [.ref 107, .int i1]) [] h Q := by
  show mx_wp d 37 0 [some (.ref 107), some (.int i1)] [] h Q
  refine wp_steps (i' := 3) (ls' := [some (.ref 107), some (.int i1)]) (st' := [.int 64, .int (mx_i h 107 1)]) (h' := h) (P := ((mxT 107).1 = 4 ∧ mxG h) ∧ True) 3 rfl rfl ⟨⟨(congrArg Prod.fst sT_107), G⟩, trivial⟩ ?_
  refine wp_br (P := True) (c := 64 ≤ (mx_i h 107 1)) (t := 16) (st' := []) rfl rfl trivial (fun c1 => ?_) (fun c1 => ?_)
  · have c1 := Int32.not_lt.mpr c1
    have H := H.2 c1
    exact wp_end (o := .inl none) (h' := h) (P := True) rfl rfl trivial H
  · have c1 := Int32.not_le.mp c1
    have H := H.1 c1
    obtain ⟨o2, H⟩ := H
    refine wp_steps (i' := 10) (ls' := [some (.ref 107), some (.int i1)]) (st' := []) (h' := mx_wi h 108 (mx_i h 107 1).toNatClampNeg i1) (P := ((mxT 107).1 = 4 ∧ mxG h) ∧ ((mxT 107).1 = 4 ∧ mxG h) ∧ (((mxT 108).1 = 50 ∧ mxG h) ∧ vp_in (mx_i h 107 1) (mxT 108).2) ∧ True) 6 rfl rfl ⟨⟨(congrArg Prod.fst sT_107), G⟩, ⟨(congrArg Prod.fst sT_107), G⟩, (cA sT_108 G o2), trivial⟩ ?_
    obtain ⟨h3, e4⟩ : ∃ z9, z9 = mx_wi h 108 (mx_i h 107 1).toNatClampNeg i1 := ⟨_, rfl⟩
    rw [← e4]
    have H := H h3 e4
    have G5 : mxG h3 := e4 ▸ mxG_wi G
    refine wp_steps (i' := 16) (ls' := [some (.ref 107), some (.int i1)]) (st' := []) (h' := mx_wi h3 107 1 ((mx_i h3 107 1) + 1)) (P := ((mxT 107).1 = 4 ∧ mxG h3) ∧ ((mxT 107).1 = 4 ∧ mxG h3) ∧ True) 6 rfl rfl ⟨⟨(congrArg Prod.fst sT_107), G5⟩, ⟨(congrArg Prod.fst sT_107), G5⟩, trivial⟩ ?_
    obtain ⟨h6, e7⟩ : ∃ z9, z9 = mx_wi h3 107 1 ((mx_i h3 107 1) + 1) := ⟨_, rfl⟩
    rw [← e7]
    have H := H h6 e7
    have G8 : mxG h6 := e7 ▸ mxG_wi G5
    exact wp_end (o := .inl none) (h' := h6) (P := True) rfl rfl trivial H
def W_37 (h : mxH) (i1 : Int32) : mxH := (if (mx_i h 107 1) < 64 then (mx_wi (mx_wi h 108 (mx_i h 107 1).toNatClampNeg i1) 107 1 ((mx_i (mx_wi h 108 (mx_i h 107 1).toNatClampNeg i1) 107 1) + 1)) else h)
theorem KW_37 {h : mxH} {i1 : Int32} : mxK h (W_37 h i1) := by
  unfold W_37
  repeat' (first | with_reducible exact mxK_rfl | with_reducible exact mxK_wi | with_reducible exact mxK_wrow | with_reducible refine mxK_ite ?_ ?_ | with_reducible refine mxK_tr ?_ mxK_wi | with_reducible refine mxK_tr ?_ mxK_wrow)
theorem sp_37 {d : Nat} {h : mxH} {Q : mxO → mxH → Prop} {i1 : Int32} (G : mxG h)  (x0 : (((mx_i h 107 1) < 64 → (vp_in (mx_i h 107 1) 64 ∧ True)) ∧ (¬ (mx_i h 107 1) < 64 → True))) (k : Q (.inl none) (W_37 h i1)) : mx_wp d 37 0 (mx_fr 37 [.ref 107, .int i1]) [] h Q := by
  unfold W_37 at k
  have hob : (((mx_i h 107 1) < 64 → (vp_in (mx_i h 107 1) 64 ∧ True)) ∧ (¬ (mx_i h 107 1) < 64 → True)) := x0
  refine tr_37_0 G  ?_
  refine ⟨fun c9 => ?_, fun c9 => ?_⟩
  · try simp only [if_pos c9] at k
    have hob := hob.1 c9
    obtain ⟨q0, hob⟩ := hob
    refine ⟨q0, ?_⟩
    intro h3 eh3
    subst eh3
    intro h6 eh6
    subst eh6
    exact k
  · try simp only [if_neg c9] at k
    have hob := hob.2 c9
    exact k
/-! 98: StoneBacks$Tape.takeSign(C)Z -/
set_option maxRecDepth 8000 in
theorem tr_98_0 {d : Nat} {h : mxH} {Q : mxO → mxH → Prop} {i1 : Int32} (G : mxG h)  (H : (vp_in (mx_i h 101 3) 401 ∧ (((mx_i h 103 (mx_i h 101 3).toNatClampNeg) = 1 → (vp_in (mx_i h 104 (mx_i h 101 3).toNatClampNeg) 400 ∧ True)) ∧ (¬ (mx_i h 103 (mx_i h 101 3).toNatClampNeg) = 1 → True)) ∧ (((V_97 h i1) = 0 → Q (.inl (some (.int 0))) h) ∧ (¬ (V_97 h i1) = 0 → (∀ h4, h4 = mx_wi h 101 3 ((mx_i h 101 3) + 1) → Q (.inl (some (.int 1))) h4))))) : mx_wp (d + 1) 98 0 (mx_fr 98 [.ref 101, .int i1]) [] h Q := by
  show mx_wp (d + 1) 98 0 [some (.ref 101), some (.int i1)] [] h Q
  refine wp_steps (i' := 2) (ls' := [some (.ref 101), some (.int i1)]) (st' := [.int i1, .ref 101]) (h' := h) (P := True) 2 rfl rfl trivial ?_
  obtain ⟨o1, o2, H⟩ := H
  refine wp_call (b := false) (y' := 97) (as := [.ref 101, .int i1]) (rest := []) (P := ((mxT 101).1 = mxRc 97 ∧ mxG h)) rfl (by with_unfolding_all rfl) ⟨(congrArg Prod.fst sT_101), G⟩ (Nat.le_of_ble_eq_true rfl) (sp_97 G o1 o2 ?_)
  show mx_wp (d + 1) 98 3 [some (.ref 101), some (.int i1)] [.int (V_97 h i1)] h Q
  refine wp_br (P := True) (c := ¬ (V_97 h i1) = 0) (t := 6) (st' := []) rfl rfl trivial (fun c3 => ?_) (fun c3 => ?_)
  · skip
    have H := H.2 c3
    refine wp_steps (i' := 12) (ls' := [some (.ref 101), some (.int i1)]) (st' := []) (h' := mx_wi h 101 3 ((mx_i h 101 3) + 1)) (P := ((mxT 101).1 = 8 ∧ mxG h) ∧ ((mxT 101).1 = 8 ∧ mxG h) ∧ True) 6 rfl rfl ⟨⟨(congrArg Prod.fst sT_101), G⟩, ⟨(congrArg Prod.fst sT_101), G⟩, trivial⟩ ?_
    obtain ⟨h4, e5⟩ : ∃ z9, z9 = mx_wi h 101 3 ((mx_i h 101 3) + 1) := ⟨_, rfl⟩
    rw [← e5]
    have H := H h4 e5
    have G6 : mxG h4 := e5 ▸ mxG_wi G
    refine wp_steps (i' := 13) (ls' := [some (.ref 101), some (.int i1)]) (st' := [.int 1]) (h' := h4) (P := True) 1 rfl rfl trivial ?_
    exact wp_end (o := .inl (some (.int 1))) (h' := h4) (P := ((1 : Int32) = 0 ∨ (1 : Int32) = 1)) rfl rfl (Or.inr rfl) H
  · have c3 := Decidable.of_not_not c3
    have H := H.1 c3
    refine wp_steps (i' := 5) (ls' := [some (.ref 101), some (.int i1)]) (st' := [.int 0]) (h' := h) (P := True) 1 rfl rfl trivial ?_
    exact wp_end (o := .inl (some (.int 0))) (h' := h) (P := ((0 : Int32) = 0 ∨ (0 : Int32) = 1)) rfl rfl (Or.inl rfl) H
def V_98 (h : mxH) (i1 : Int32) : Int32 := (if (V_97 h i1) = 0 then 0 else 1)
def W_98 (h : mxH) (i1 : Int32) : mxH := (if (V_97 h i1) = 0 then h else (mx_wi h 101 3 ((mx_i h 101 3) + 1)))
theorem KW_98 {h : mxH} {i1 : Int32} : mxK h (W_98 h i1) := by
  unfold W_98
  repeat' (first | with_reducible exact mxK_rfl | with_reducible exact mxK_wi | with_reducible exact mxK_wrow | with_reducible refine mxK_ite ?_ ?_ | with_reducible refine mxK_tr ?_ mxK_wi | with_reducible refine mxK_tr ?_ mxK_wrow)
theorem sp_98 {d : Nat} {h : mxH} {Q : mxO → mxH → Prop} {i1 : Int32} (G : mxG h)  (x0 : vp_in (mx_i h 101 3) 401) (x1 : (((mx_i h 103 (mx_i h 101 3).toNatClampNeg) = 1 → (vp_in (mx_i h 104 (mx_i h 101 3).toNatClampNeg) 400 ∧ True)) ∧ (¬ (mx_i h 103 (mx_i h 101 3).toNatClampNeg) = 1 → True))) (k : Q (.inl (some (.int (V_98 h i1)))) (W_98 h i1)) : mx_wp (d + 1) 98 0 (mx_fr 98 [.ref 101, .int i1]) [] h Q := by
  unfold V_98 W_98 at k
  have hob : (vp_in (mx_i h 101 3) 401 ∧ (((mx_i h 103 (mx_i h 101 3).toNatClampNeg) = 1 → (vp_in (mx_i h 104 (mx_i h 101 3).toNatClampNeg) 400 ∧ True)) ∧ (¬ (mx_i h 103 (mx_i h 101 3).toNatClampNeg) = 1 → True)) ∧ True) := ⟨x0, x1, trivial⟩
  refine tr_98_0 G  ?_
  obtain ⟨q0, q1, hob⟩ := hob
  refine ⟨q0, q1, ?_⟩
  refine ⟨fun c9 => ?_, fun c9 => ?_⟩
  · try simp only [if_pos c9] at k
    exact k
  · try simp only [if_neg c9] at k
    intro h4 eh4
    subst eh4
    exact k
/-! 34: StoneBacks$LawText.readOpeners(LStoneBacks$Tape;)Z -/
def H_34_2 (d : Nat) (h : mxH) (i2 : Int32) (Q : mxO → mxH → Prop) : Prop := ∀ (w3 : Option Value), mx_wp d 34 2 [some (.ref 107), some (.ref 101), some (.int i2), w3] [] h Q
set_option maxRecDepth 8000 in
theorem tr_34_0 {d : Nat} {h : mxH} {Q : mxO → mxH → Prop}  (G : mxG h)  (H : H_34_2 (d + 2) h 0 Q) : mx_wp (d + 2) 34 0 (mx_fr 34 [.ref 107, .ref 101]) [] h Q := by
  show mx_wp (d + 2) 34 0 [some (.ref 107), some (.ref 101), none, none] [] h Q
  refine wp_steps (i' := 2) (ls' := [some (.ref 107), some (.ref 101), some (.int 0), none]) (st' := []) (h' := h) (P := True) 2 rfl rfl trivial ?_
  exact H _
set_option maxRecDepth 8000 in
theorem tr_34_2 {d : Nat} {h : mxH} {Q : mxO → mxH → Prop}  {i2 : Int32} (G : mxG h)  (H : ((6 < i2 → Q (.inl (some (.int 0))) h) ∧ (¬ 6 < i2 → (vp_in (mx_i h 101 3) 401 ∧ ((((mx_r h 106 (mx_i h 101 3).toNatClampNeg) = 0 ∨ (3 ≤ (mx_r h 106 (mx_i h 101 3).toNatClampNeg) ∧ (mx_r h 106 (mx_i h 101 3).toNatClampNeg) < 29)) ∧ (19 = 0 ∨ (3 ≤ 19 ∧ 19 < 29))) ∧ True) ∧ (((V_95 h 19) = 0 → ((((mx_i h 103 (mx_i h 101 3).toNatClampNeg) = 1 → (vp_in (mx_i h 104 (mx_i h 101 3).toNatClampNeg) 400 ∧ True)) ∧ (¬ (mx_i h 103 (mx_i h 101 3).toNatClampNeg) = 1 → True)) ∧ (((V_97 h (40 : Int32)) = 0 → Q (.inl (some (.int 1))) h) ∧ (¬ (V_97 h (40 : Int32)) = 0 → (((mx_i h 107 2) < 6 → (∀ h38, h38 = mx_wi h 107 2 ((mx_i h 107 2) + 1) → (((V_95 h 19) = 0 → (vp_in (mx_i h38 101 3) 401 ∧ (((mx_i h38 103 (mx_i h38 101 3).toNatClampNeg) = 1 → (vp_in (mx_i h38 104 (mx_i h38 101 3).toNatClampNeg) 400 ∧ True)) ∧ (¬ (mx_i h38 103 (mx_i h38 101 3).toNatClampNeg) = 1 → True)) ∧ (∀ h44, h44 = W_98 h38 (40 : Int32) → ((((mx_i h44 107 1) < 64 → (vp_in (mx_i h44 107 1) 64 ∧ True)) ∧ (¬ (mx_i h44 107 1) < 64 → True)) ∧ (∀ h49, h49 = W_37 h44 (0 : Int32) → (∀ h53, h53 = mx_wi h49 107 3 ((mx_i h49 107 3) + 1) → H_34_2 (d + 2) h53 (i2 + 1) Q)))))) ∧ (¬ (V_95 h 19) = 0 → (vp_in (mx_i h38 101 3) 401 ∧ (((mx_r h38 106 (mx_i h38 101 3).toNatClampNeg) = 0 ∨ (3 ≤ (mx_r h38 106 (mx_i h38 101 3).toNatClampNeg) ∧ (mx_r h38 106 (mx_i h38 101 3).toNatClampNeg) < 29)) ∧ (19 = 0 ∨ (3 ≤ 19 ∧ 19 < 29))) ∧ (∀ h58, h58 = W_96 h38 19 → ((((mx_i h58 107 1) < 64 → (vp_in (mx_i h58 107 1) 64 ∧ True)) ∧ (¬ (mx_i h58 107 1) < 64 → True)) ∧ (∀ h63, h63 = W_37 h58 (1009 : Int32) → H_34_2 (d + 2) h63 (i2 + 1) Q)))))))) ∧ (¬ (mx_i h 107 2) < 6 → Q (.inl (some (.int 0))) h)))))) ∧ (¬ (V_95 h 19) = 0 → (((mx_i h 107 2) < 6 → (∀ h6, h6 = mx_wi h 107 2 ((mx_i h 107 2) + 1) → (((V_95 h 19) = 0 → (vp_in (mx_i h6 101 3) 401 ∧ (((mx_i h6 103 (mx_i h6 101 3).toNatClampNeg) = 1 → (vp_in (mx_i h6 104 (mx_i h6 101 3).toNatClampNeg) 400 ∧ True)) ∧ (¬ (mx_i h6 103 (mx_i h6 101 3).toNatClampNeg) = 1 → True)) ∧ (∀ h12, h12 = W_98 h6 (40 : Int32) → ((((mx_i h12 107 1) < 64 → (vp_in (mx_i h12 107 1) 64 ∧ True)) ∧ (¬ (mx_i h12 107 1) < 64 → True)) ∧ (∀ h17, h17 = W_37 h12 (0 : Int32) → (∀ h21, h21 = mx_wi h17 107 3 ((mx_i h17 107 3) + 1) → H_34_2 (d + 2) h21 (i2 + 1) Q)))))) ∧ (¬ (V_95 h 19) = 0 → (vp_in (mx_i h6 101 3) 401 ∧ (((mx_r h6 106 (mx_i h6 101 3).toNatClampNeg) = 0 ∨ (3 ≤ (mx_r h6 106 (mx_i h6 101 3).toNatClampNeg) ∧ (mx_r h6 106 (mx_i h6 101 3).toNatClampNeg) < 29)) ∧ (19 = 0 ∨ (3 ≤ 19 ∧ 19 < 29))) ∧ (∀ h26, h26 = W_96 h6 19 → ((((mx_i h26 107 1) < 64 → (vp_in (mx_i h26 107 1) 64 ∧ True)) ∧ (¬ (mx_i h26 107 1) < 64 → True)) ∧ (∀ h31, h31 = W_37 h26 (1009 : Int32) → H_34_2 (d + 2) h31 (i2 + 1) Q)))))))) ∧ (¬ (mx_i h 107 2) < 6 → Q (.inl (some (.int 0))) h)))))))) : H_34_2 (d + 2) h i2 Q := by
  intro w3
  show mx_wp (d + 2) 34 2 [some (.ref 107), some (.ref 101), some (.int i2), w3] [] h Q
  refine wp_steps (i' := 4) (ls' := [some (.ref 107), some (.ref 101), some (.int i2), w3]) (st' := [.int 6, .int i2]) (h' := h) (P := True) 2 rfl rfl trivial ?_
  refine wp_br (P := True) (c := 6 < i2) (t := 54) (st' := []) rfl rfl trivial (fun c1 => ?_) (fun c1 => ?_)
  · skip
    have H := H.1 c1
    refine wp_steps (i' := 55) (ls' := [some (.ref 107), some (.ref 101), some (.int i2), w3]) (st' := [.int 0]) (h' := h) (P := True) 1 rfl rfl trivial ?_
    exact wp_end (o := .inl (some (.int 0))) (h' := h) (P := ((0 : Int32) = 0 ∨ (0 : Int32) = 1)) rfl rfl (Or.inl rfl) H
  · skip
    have H := H.2 c1
    refine wp_steps (i' := 7) (ls' := [some (.ref 107), some (.ref 101), some (.int i2), w3]) (st' := [.ref 19, .ref 101]) (h' := h) (P := True) 2 rfl rfl trivial ?_
    obtain ⟨o2, o3, H⟩ := H
    refine wp_call (b := false) (y' := 95) (as := [.ref 101, .ref 19]) (rest := []) (P := ((mxT 101).1 = mxRc 95 ∧ mxG h)) rfl (by with_unfolding_all rfl) ⟨(congrArg Prod.fst sT_101), G⟩ (Nat.le_of_ble_eq_true rfl) (sp_95 G o2 o3 ?_)
    show mx_wp (d + 2) 34 8 [some (.ref 107), some (.ref 101), some (.int i2), w3] [.int (V_95 h 19)] h Q
    refine wp_steps (i' := 10) (ls' := [some (.ref 107), some (.ref 101), some (.int i2), some (.int (V_95 h 19))]) (st' := [.int (V_95 h 19)]) (h' := h) (P := True) 2 rfl rfl trivial ?_
    refine wp_br (P := True) (c := ¬ (V_95 h 19) = 0) (t := 17) (st' := []) rfl rfl trivial (fun c4 => ?_) (fun c4 => ?_)
    · skip
      have H := H.2 c4
      refine wp_steps (i' := 20) (ls' := [some (.ref 107), some (.ref 101), some (.int i2), some (.int (V_95 h 19))]) (st' := [.int 6, .int (mx_i h 107 2)]) (h' := h) (P := ((mxT 107).1 = 4 ∧ mxG h) ∧ True) 3 rfl rfl ⟨⟨(congrArg Prod.fst sT_107), G⟩, trivial⟩ ?_
      refine wp_br (P := True) (c := (mx_i h 107 2) < 6) (t := 23) (st' := []) rfl rfl trivial (fun c5 => ?_) (fun c5 => ?_)
      · skip
        have H := H.1 c5
        refine wp_steps (i' := 29) (ls' := [some (.ref 107), some (.ref 101), some (.int i2), some (.int (V_95 h 19))]) (st' := []) (h' := mx_wi h 107 2 ((mx_i h 107 2) + 1)) (P := ((mxT 107).1 = 4 ∧ mxG h) ∧ ((mxT 107).1 = 4 ∧ mxG h) ∧ True) 6 rfl rfl ⟨⟨(congrArg Prod.fst sT_107), G⟩, ⟨(congrArg Prod.fst sT_107), G⟩, trivial⟩ ?_
        obtain ⟨h6, e7⟩ : ∃ z9, z9 = mx_wi h 107 2 ((mx_i h 107 2) + 1) := ⟨_, rfl⟩
        rw [← e7]
        have H := H h6 e7
        have G8 : mxG h6 := e7 ▸ mxG_wi G
        refine wp_steps (i' := 30) (ls' := [some (.ref 107), some (.ref 101), some (.int i2), some (.int (V_95 h 19))]) (st' := [.int (V_95 h 19)]) (h' := h6) (P := True) 1 rfl rfl trivial ?_
        refine wp_br (P := True) (c := (V_95 h 19) = 0) (t := 39) (st' := []) rfl rfl trivial (fun c9 => ?_) (fun c9 => ?_)
        · skip
          have H := H.1 c9
          refine wp_steps (i' := 41) (ls' := [some (.ref 107), some (.ref 101), some (.int i2), some (.int (V_95 h 19))]) (st' := [.int 40, .ref 101]) (h' := h6) (P := True) 2 rfl rfl trivial ?_
          obtain ⟨o10, o11, H⟩ := H
          refine wp_call (b := false) (y' := 98) (as := [.ref 101, .int 40]) (rest := []) (P := ((mxT 101).1 = mxRc 98 ∧ mxG h6)) rfl (by with_unfolding_all rfl) ⟨(congrArg Prod.fst sT_101), G8⟩ (Nat.le_of_ble_eq_true rfl) (sp_98 G8 o10 o11 ?_)
          show mx_wp (d + 2) 34 42 [some (.ref 107), some (.ref 101), some (.int i2), some (.int (V_95 h 19))] [.int (V_98 h6 (40 : Int32))] (W_98 h6 (40 : Int32)) Q
          obtain ⟨h12, e13⟩ : ∃ z9, z9 = W_98 h6 (40 : Int32) := ⟨_, rfl⟩
          rw [← e13]
          have H := H h12 e13
          have K15 : mxK h6 h12 := e13 ▸ KW_98
          have G14 : mxG h12 := mxK_G K15 G8
          refine wp_steps (i' := 45) (ls' := [some (.ref 107), some (.ref 101), some (.int i2), some (.int (V_95 h 19))]) (st' := [.int 0, .ref 107]) (h' := h12) (P := True) 3 rfl rfl trivial ?_
          obtain ⟨o16, H⟩ := H
          refine wp_call (b := false) (y' := 37) (as := [.ref 107, .int 0]) (rest := []) (P := ((mxT 107).1 = mxRc 37 ∧ mxG h12)) rfl (by with_unfolding_all rfl) ⟨(congrArg Prod.fst sT_107), G14⟩ (Nat.le_of_ble_eq_true rfl) (sp_37 G14 o16 ?_)
          show mx_wp (d + 2) 34 46 [some (.ref 107), some (.ref 101), some (.int i2), some (.int (V_95 h 19))] [] (W_37 h12 (0 : Int32)) Q
          obtain ⟨h17, e18⟩ : ∃ z9, z9 = W_37 h12 (0 : Int32) := ⟨_, rfl⟩
          rw [← e18]
          have H := H h17 e18
          have K20 : mxK h12 h17 := e18 ▸ KW_37
          have G19 : mxG h17 := mxK_G K20 G14
          refine wp_steps (i' := 52) (ls' := [some (.ref 107), some (.ref 101), some (.int i2), some (.int (V_95 h 19))]) (st' := []) (h' := mx_wi h17 107 3 ((mx_i h17 107 3) + 1)) (P := ((mxT 107).1 = 4 ∧ mxG h17) ∧ ((mxT 107).1 = 4 ∧ mxG h17) ∧ True) 6 rfl rfl ⟨⟨(congrArg Prod.fst sT_107), G19⟩, ⟨(congrArg Prod.fst sT_107), G19⟩, trivial⟩ ?_
          obtain ⟨h21, e22⟩ : ∃ z9, z9 = mx_wi h17 107 3 ((mx_i h17 107 3) + 1) := ⟨_, rfl⟩
          rw [← e22]
          have H := H h21 e22
          have G23 : mxG h21 := e22 ▸ mxG_wi G19
          refine wp_steps (i' := 53) (ls' := [some (.ref 107), some (.ref 101), some (.int (i2 + 1)), some (.int (V_95 h 19))]) (st' := []) (h' := h21) (P := True) 1 rfl rfl trivial ?_
          refine wp_J (j := 2) (st' := []) rfl rfl ?_
          exact H _
        · skip
          have H := H.2 c9
          refine wp_steps (i' := 33) (ls' := [some (.ref 107), some (.ref 101), some (.int i2), some (.int (V_95 h 19))]) (st' := [.ref 19, .ref 101]) (h' := h6) (P := True) 2 rfl rfl trivial ?_
          obtain ⟨o24, o25, H⟩ := H
          refine wp_call (b := false) (y' := 96) (as := [.ref 101, .ref 19]) (rest := []) (P := ((mxT 101).1 = mxRc 96 ∧ mxG h6)) rfl (by with_unfolding_all rfl) ⟨(congrArg Prod.fst sT_101), G8⟩ (Nat.le_of_ble_eq_true rfl) (sp_96 G8 o24 o25 ?_)
          show mx_wp (d + 2) 34 34 [some (.ref 107), some (.ref 101), some (.int i2), some (.int (V_95 h 19))] [.int (V_96 h6 19)] (W_96 h6 19) Q
          obtain ⟨h26, e27⟩ : ∃ z9, z9 = W_96 h6 19 := ⟨_, rfl⟩
          rw [← e27]
          have H := H h26 e27
          have K29 : mxK h6 h26 := e27 ▸ KW_96
          have G28 : mxG h26 := mxK_G K29 G8
          refine wp_steps (i' := 37) (ls' := [some (.ref 107), some (.ref 101), some (.int i2), some (.int (V_95 h 19))]) (st' := [.int 1009, .ref 107]) (h' := h26) (P := True) 3 rfl rfl trivial ?_
          obtain ⟨o30, H⟩ := H
          refine wp_call (b := false) (y' := 37) (as := [.ref 107, .int 1009]) (rest := []) (P := ((mxT 107).1 = mxRc 37 ∧ mxG h26)) rfl (by with_unfolding_all rfl) ⟨(congrArg Prod.fst sT_107), G28⟩ (Nat.le_of_ble_eq_true rfl) (sp_37 G28 o30 ?_)
          show mx_wp (d + 2) 34 38 [some (.ref 107), some (.ref 101), some (.int i2), some (.int (V_95 h 19))] [] (W_37 h26 (1009 : Int32)) Q
          obtain ⟨h31, e32⟩ : ∃ z9, z9 = W_37 h26 (1009 : Int32) := ⟨_, rfl⟩
          rw [← e32]
          have H := H h31 e32
          have K34 : mxK h26 h31 := e32 ▸ KW_37
          have G33 : mxG h31 := mxK_G K34 G28
          refine wp_J (j := 52) (st' := []) rfl rfl ?_
          refine wp_steps (i' := 53) (ls' := [some (.ref 107), some (.ref 101), some (.int (i2 + 1)), some (.int (V_95 h 19))]) (st' := []) (h' := h31) (P := True) 1 rfl rfl trivial ?_
          refine wp_J (j := 2) (st' := []) rfl rfl ?_
          exact H _
      · skip
        have H := H.2 c5
        refine wp_steps (i' := 22) (ls' := [some (.ref 107), some (.ref 101), some (.int i2), some (.int (V_95 h 19))]) (st' := [.int 0]) (h' := h) (P := True) 1 rfl rfl trivial ?_
        exact wp_end (o := .inl (some (.int 0))) (h' := h) (P := ((0 : Int32) = 0 ∨ (0 : Int32) = 1)) rfl rfl (Or.inl rfl) H
    · have c4 := Decidable.of_not_not c4
      have H := H.1 c4
      refine wp_steps (i' := 13) (ls' := [some (.ref 107), some (.ref 101), some (.int i2), some (.int (V_95 h 19))]) (st' := [.int 40, .ref 101]) (h' := h) (P := True) 2 rfl rfl trivial ?_
      obtain ⟨o35, H⟩ := H
      refine wp_call (b := false) (y' := 97) (as := [.ref 101, .int 40]) (rest := []) (P := ((mxT 101).1 = mxRc 97 ∧ mxG h)) rfl (by with_unfolding_all rfl) ⟨(congrArg Prod.fst sT_101), G⟩ (Nat.le_of_ble_eq_true rfl) (sp_97 G o2 o35 ?_)
      show mx_wp (d + 2) 34 14 [some (.ref 107), some (.ref 101), some (.int i2), some (.int (V_95 h 19))] [.int (V_97 h (40 : Int32))] h Q
      refine wp_br (P := True) (c := ¬ (V_97 h (40 : Int32)) = 0) (t := 17) (st' := []) rfl rfl trivial (fun c36 => ?_) (fun c36 => ?_)
      · skip
        have H := H.2 c36
        refine wp_steps (i' := 20) (ls' := [some (.ref 107), some (.ref 101), some (.int i2), some (.int (V_95 h 19))]) (st' := [.int 6, .int (mx_i h 107 2)]) (h' := h) (P := ((mxT 107).1 = 4 ∧ mxG h) ∧ True) 3 rfl rfl ⟨⟨(congrArg Prod.fst sT_107), G⟩, trivial⟩ ?_
        refine wp_br (P := True) (c := (mx_i h 107 2) < 6) (t := 23) (st' := []) rfl rfl trivial (fun c37 => ?_) (fun c37 => ?_)
        · skip
          have H := H.1 c37
          refine wp_steps (i' := 29) (ls' := [some (.ref 107), some (.ref 101), some (.int i2), some (.int (V_95 h 19))]) (st' := []) (h' := mx_wi h 107 2 ((mx_i h 107 2) + 1)) (P := ((mxT 107).1 = 4 ∧ mxG h) ∧ ((mxT 107).1 = 4 ∧ mxG h) ∧ True) 6 rfl rfl ⟨⟨(congrArg Prod.fst sT_107), G⟩, ⟨(congrArg Prod.fst sT_107), G⟩, trivial⟩ ?_
          obtain ⟨h38, e39⟩ : ∃ z9, z9 = mx_wi h 107 2 ((mx_i h 107 2) + 1) := ⟨_, rfl⟩
          rw [← e39]
          have H := H h38 e39
          have G40 : mxG h38 := e39 ▸ mxG_wi G
          refine wp_steps (i' := 30) (ls' := [some (.ref 107), some (.ref 101), some (.int i2), some (.int (V_95 h 19))]) (st' := [.int (V_95 h 19)]) (h' := h38) (P := True) 1 rfl rfl trivial ?_
          refine wp_br (P := True) (c := (V_95 h 19) = 0) (t := 39) (st' := []) rfl rfl trivial (fun c41 => ?_) (fun c41 => ?_)
          · skip
            have H := H.1 c41
            refine wp_steps (i' := 41) (ls' := [some (.ref 107), some (.ref 101), some (.int i2), some (.int (V_95 h 19))]) (st' := [.int 40, .ref 101]) (h' := h38) (P := True) 2 rfl rfl trivial ?_
            obtain ⟨o42, o43, H⟩ := H
            refine wp_call (b := false) (y' := 98) (as := [.ref 101, .int 40]) (rest := []) (P := ((mxT 101).1 = mxRc 98 ∧ mxG h38)) rfl (by with_unfolding_all rfl) ⟨(congrArg Prod.fst sT_101), G40⟩ (Nat.le_of_ble_eq_true rfl) (sp_98 G40 o42 o43 ?_)
            show mx_wp (d + 2) 34 42 [some (.ref 107), some (.ref 101), some (.int i2), some (.int (V_95 h 19))] [.int (V_98 h38 (40 : Int32))] (W_98 h38 (40 : Int32)) Q
            obtain ⟨h44, e45⟩ : ∃ z9, z9 = W_98 h38 (40 : Int32) := ⟨_, rfl⟩
            rw [← e45]
            have H := H h44 e45
            have K47 : mxK h38 h44 := e45 ▸ KW_98
            have G46 : mxG h44 := mxK_G K47 G40
            refine wp_steps (i' := 45) (ls' := [some (.ref 107), some (.ref 101), some (.int i2), some (.int (V_95 h 19))]) (st' := [.int 0, .ref 107]) (h' := h44) (P := True) 3 rfl rfl trivial ?_
            obtain ⟨o48, H⟩ := H
            refine wp_call (b := false) (y' := 37) (as := [.ref 107, .int 0]) (rest := []) (P := ((mxT 107).1 = mxRc 37 ∧ mxG h44)) rfl (by with_unfolding_all rfl) ⟨(congrArg Prod.fst sT_107), G46⟩ (Nat.le_of_ble_eq_true rfl) (sp_37 G46 o48 ?_)
            show mx_wp (d + 2) 34 46 [some (.ref 107), some (.ref 101), some (.int i2), some (.int (V_95 h 19))] [] (W_37 h44 (0 : Int32)) Q
            obtain ⟨h49, e50⟩ : ∃ z9, z9 = W_37 h44 (0 : Int32) := ⟨_, rfl⟩
            rw [← e50]
            have H := H h49 e50
            have K52 : mxK h44 h49 := e50 ▸ KW_37
            have G51 : mxG h49 := mxK_G K52 G46
            refine wp_steps (i' := 52) (ls' := [some (.ref 107), some (.ref 101), some (.int i2), some (.int (V_95 h 19))]) (st' := []) (h' := mx_wi h49 107 3 ((mx_i h49 107 3) + 1)) (P := ((mxT 107).1 = 4 ∧ mxG h49) ∧ ((mxT 107).1 = 4 ∧ mxG h49) ∧ True) 6 rfl rfl ⟨⟨(congrArg Prod.fst sT_107), G51⟩, ⟨(congrArg Prod.fst sT_107), G51⟩, trivial⟩ ?_
            obtain ⟨h53, e54⟩ : ∃ z9, z9 = mx_wi h49 107 3 ((mx_i h49 107 3) + 1) := ⟨_, rfl⟩
            rw [← e54]
            have H := H h53 e54
            have G55 : mxG h53 := e54 ▸ mxG_wi G51
            refine wp_steps (i' := 53) (ls' := [some (.ref 107), some (.ref 101), some (.int (i2 + 1)), some (.int (V_95 h 19))]) (st' := []) (h' := h53) (P := True) 1 rfl rfl trivial ?_
            refine wp_J (j := 2) (st' := []) rfl rfl ?_
            exact H _
          · skip
            have H := H.2 c41
            refine wp_steps (i' := 33) (ls' := [some (.ref 107), some (.ref 101), some (.int i2), some (.int (V_95 h 19))]) (st' := [.ref 19, .ref 101]) (h' := h38) (P := True) 2 rfl rfl trivial ?_
            obtain ⟨o56, o57, H⟩ := H
            refine wp_call (b := false) (y' := 96) (as := [.ref 101, .ref 19]) (rest := []) (P := ((mxT 101).1 = mxRc 96 ∧ mxG h38)) rfl (by with_unfolding_all rfl) ⟨(congrArg Prod.fst sT_101), G40⟩ (Nat.le_of_ble_eq_true rfl) (sp_96 G40 o56 o57 ?_)
            show mx_wp (d + 2) 34 34 [some (.ref 107), some (.ref 101), some (.int i2), some (.int (V_95 h 19))] [.int (V_96 h38 19)] (W_96 h38 19) Q
            obtain ⟨h58, e59⟩ : ∃ z9, z9 = W_96 h38 19 := ⟨_, rfl⟩
            rw [← e59]
            have H := H h58 e59
            have K61 : mxK h38 h58 := e59 ▸ KW_96
            have G60 : mxG h58 := mxK_G K61 G40
            refine wp_steps (i' := 37) (ls' := [some (.ref 107), some (.ref 101), some (.int i2), some (.int (V_95 h 19))]) (st' := [.int 1009, .ref 107]) (h' := h58) (P := True) 3 rfl rfl trivial ?_
            obtain ⟨o62, H⟩ := H
            refine wp_call (b := false) (y' := 37) (as := [.ref 107, .int 1009]) (rest := []) (P := ((mxT 107).1 = mxRc 37 ∧ mxG h58)) rfl (by with_unfolding_all rfl) ⟨(congrArg Prod.fst sT_107), G60⟩ (Nat.le_of_ble_eq_true rfl) (sp_37 G60 o62 ?_)
            show mx_wp (d + 2) 34 38 [some (.ref 107), some (.ref 101), some (.int i2), some (.int (V_95 h 19))] [] (W_37 h58 (1009 : Int32)) Q
            obtain ⟨h63, e64⟩ : ∃ z9, z9 = W_37 h58 (1009 : Int32) := ⟨_, rfl⟩
            rw [← e64]
            have H := H h63 e64
            have K66 : mxK h58 h63 := e64 ▸ KW_37
            have G65 : mxG h63 := mxK_G K66 G60
            refine wp_J (j := 52) (st' := []) rfl rfl ?_
            refine wp_steps (i' := 53) (ls' := [some (.ref 107), some (.ref 101), some (.int (i2 + 1)), some (.int (V_95 h 19))]) (st' := []) (h' := h63) (P := True) 1 rfl rfl trivial ?_
            refine wp_J (j := 2) (st' := []) rfl rfl ?_
            exact H _
        · skip
          have H := H.2 c37
          refine wp_steps (i' := 22) (ls' := [some (.ref 107), some (.ref 101), some (.int i2), some (.int (V_95 h 19))]) (st' := [.int 0]) (h' := h) (P := True) 1 rfl rfl trivial ?_
          exact wp_end (o := .inl (some (.int 0))) (h' := h) (P := ((0 : Int32) = 0 ∨ (0 : Int32) = 1)) rfl rfl (Or.inl rfl) H
      · have c36 := Decidable.of_not_not c36
        have H := H.1 c36
        refine wp_steps (i' := 16) (ls' := [some (.ref 107), some (.ref 101), some (.int i2), some (.int (V_95 h 19))]) (st' := [.int 1]) (h' := h) (P := True) 1 rfl rfl trivial ?_
        exact wp_end (o := .inl (some (.int 1))) (h' := h) (P := ((1 : Int32) = 0 ∨ (1 : Int32) = 1)) rfl rfl (Or.inr rfl) H
/-! 101: StoneBacks$Tape.takePartWord()I -/
set_option maxRecDepth 8000 in
theorem tr_101_0 {d : Nat} {h : mxH} {Q : mxO → mxH → Prop}  (G : mxG h)  (H : (vp_in (mx_i h 101 3) 401 ∧ (¬ (mx_r h 106 (mx_i h 101 3).toNatClampNeg) = 29 ∧ (((mx_r h 106 (mx_i h 101 3).toNatClampNeg) = 0 → Q (.inl (some (.int (-1)))) h) ∧ (¬ (mx_r h 106 (mx_i h 101 3).toNatClampNeg) = 0 → ((3 ≤ (mx_r h 106 (mx_i h 101 3).toNatClampNeg) ∧ (mx_r h 106 (mx_i h 101 3).toNatClampNeg) < 29) ∧ (((mxWp (mx_r h 106 (mx_i h 101 3).toNatClampNeg)) = (-1) → Q (.inl (some (.int (-1)))) h) ∧ (¬ (mxWp (mx_r h 106 (mx_i h 101 3).toNatClampNeg)) = (-1) → (∀ h6, h6 = mx_wi h 101 3 ((mx_i h 101 3) + 1) → Q (.inl (some (.int (mxWp (mx_r h 106 (mx_i h 101 3).toNatClampNeg))))) h6))))))))) : mx_wp d 101 0 (mx_fr 101 [.ref 101]) [] h Q := by
  show mx_wp d 101 0 [some (.ref 101), none] [] h Q
  obtain ⟨o1, H⟩ := H
  refine wp_steps (i' := 7) (ls' := [some (.ref 101), some (.ref (mx_r h 106 (mx_i h 101 3).toNatClampNeg))]) (st' := [.ref (mx_r h 106 (mx_i h 101 3).toNatClampNeg)]) (h' := h) (P := ((mxT 101).1 = 8 ∧ mxG h) ∧ ((mxT 101).1 = 8 ∧ mxG h) ∧ ((((mxT 106).1 = 53 ∨ (mxT 106).1 = 54) ∧ mxG h) ∧ vp_in (mx_i h 101 3) (mxT 106).2) ∧ True) 7 rfl rfl ⟨⟨(congrArg Prod.fst sT_101), G⟩, ⟨(congrArg Prod.fst sT_101), G⟩, (cW sT_106 (Or.inl rfl) G o1), trivial⟩ ?_
  obtain ⟨o2, H⟩ := H
  refine wp_br (P := ¬ (mx_r h 106 (mx_i h 101 3).toNatClampNeg) = 29) (c := (mx_r h 106 (mx_i h 101 3).toNatClampNeg) = 0) (t := 12) (st' := []) rfl rfl o2 (fun c3 => ?_) (fun c3 => ?_)
  · skip
    have H := H.1 c3
    refine wp_steps (i' := 13) (ls' := [some (.ref 101), some (.ref (mx_r h 106 (mx_i h 101 3).toNatClampNeg))]) (st' := [.int (-1)]) (h' := h) (P := True) 1 rfl rfl trivial ?_
    exact wp_end (o := .inl (some (.int (-1)))) (h' := h) (P := True) rfl rfl trivial H
  · skip
    have H := H.2 c3
    obtain ⟨o4, H⟩ := H
    refine wp_steps (i' := 11) (ls' := [some (.ref 101), some (.ref (mx_r h 106 (mx_i h 101 3).toNatClampNeg))]) (st' := [.int (-1), .int (mxWp (mx_r h 106 (mx_i h 101 3).toNatClampNeg))]) (h' := h) (P := (3 ≤ (mx_r h 106 (mx_i h 101 3).toNatClampNeg) ∧ (mx_r h 106 (mx_i h 101 3).toNatClampNeg) < 29) ∧ True) 3 rfl rfl ⟨o4, trivial⟩ ?_
    refine wp_br (P := True) (c := ¬ (mxWp (mx_r h 106 (mx_i h 101 3).toNatClampNeg)) = (-1)) (t := 14) (st' := []) rfl rfl trivial (fun c5 => ?_) (fun c5 => ?_)
    · skip
      have H := H.2 c5
      refine wp_steps (i' := 20) (ls' := [some (.ref 101), some (.ref (mx_r h 106 (mx_i h 101 3).toNatClampNeg))]) (st' := []) (h' := mx_wi h 101 3 ((mx_i h 101 3) + 1)) (P := ((mxT 101).1 = 8 ∧ mxG h) ∧ ((mxT 101).1 = 8 ∧ mxG h) ∧ True) 6 rfl rfl ⟨⟨(congrArg Prod.fst sT_101), G⟩, ⟨(congrArg Prod.fst sT_101), G⟩, trivial⟩ ?_
      obtain ⟨h6, e7⟩ : ∃ z9, z9 = mx_wi h 101 3 ((mx_i h 101 3) + 1) := ⟨_, rfl⟩
      rw [← e7]
      have H := H h6 e7
      have G8 : mxG h6 := e7 ▸ mxG_wi G
      refine wp_steps (i' := 22) (ls' := [some (.ref 101), some (.ref (mx_r h 106 (mx_i h 101 3).toNatClampNeg))]) (st' := [.int (mxWp (mx_r h 106 (mx_i h 101 3).toNatClampNeg))]) (h' := h6) (P := (3 ≤ (mx_r h 106 (mx_i h 101 3).toNatClampNeg) ∧ (mx_r h 106 (mx_i h 101 3).toNatClampNeg) < 29) ∧ True) 2 rfl rfl ⟨o4, trivial⟩ ?_
      exact wp_end (o := .inl (some (.int (mxWp (mx_r h 106 (mx_i h 101 3).toNatClampNeg))))) (h' := h6) (P := True) rfl rfl trivial H
    · have c5 := Decidable.of_not_not c5
      have H := H.1 c5
      refine wp_steps (i' := 13) (ls' := [some (.ref 101), some (.ref (mx_r h 106 (mx_i h 101 3).toNatClampNeg))]) (st' := [.int (-1)]) (h' := h) (P := True) 1 rfl rfl trivial ?_
      exact wp_end (o := .inl (some (.int (-1)))) (h' := h) (P := True) rfl rfl trivial H
def V_101 (h : mxH) : Int32 := (if (mx_r h 106 (mx_i h 101 3).toNatClampNeg) = 0 then (-1) else (if (mxWp (mx_r h 106 (mx_i h 101 3).toNatClampNeg)) = (-1) then (-1) else (mxWp (mx_r h 106 (mx_i h 101 3).toNatClampNeg))))
def W_101 (h : mxH) : mxH := (if (mx_r h 106 (mx_i h 101 3).toNatClampNeg) = 0 then h else (if (mxWp (mx_r h 106 (mx_i h 101 3).toNatClampNeg)) = (-1) then h else (mx_wi h 101 3 ((mx_i h 101 3) + 1))))
theorem KW_101 {h : mxH} : mxK h (W_101 h) := by
  unfold W_101
  repeat' (first | with_reducible exact mxK_rfl | with_reducible exact mxK_wi | with_reducible exact mxK_wrow | with_reducible refine mxK_ite ?_ ?_ | with_reducible refine mxK_tr ?_ mxK_wi | with_reducible refine mxK_tr ?_ mxK_wrow)
theorem sp_101 {d : Nat} {h : mxH} {Q : mxO → mxH → Prop}  (G : mxG h)  (x0 : vp_in (mx_i h 101 3) 401) (x1 : ¬ (mx_r h 106 (mx_i h 101 3).toNatClampNeg) = 29) (x2 : (((mx_r h 106 (mx_i h 101 3).toNatClampNeg) = 0 → True) ∧ (¬ (mx_r h 106 (mx_i h 101 3).toNatClampNeg) = 0 → ((3 ≤ (mx_r h 106 (mx_i h 101 3).toNatClampNeg) ∧ (mx_r h 106 (mx_i h 101 3).toNatClampNeg) < 29) ∧ True)))) (k : Q (.inl (some (.int (V_101 h)))) (W_101 h)) : mx_wp d 101 0 (mx_fr 101 [.ref 101]) [] h Q := by
  unfold V_101 W_101 at k
  have hob : (vp_in (mx_i h 101 3) 401 ∧ (¬ (mx_r h 106 (mx_i h 101 3).toNatClampNeg) = 29 ∧ (((mx_r h 106 (mx_i h 101 3).toNatClampNeg) = 0 → True) ∧ (¬ (mx_r h 106 (mx_i h 101 3).toNatClampNeg) = 0 → ((3 ≤ (mx_r h 106 (mx_i h 101 3).toNatClampNeg) ∧ (mx_r h 106 (mx_i h 101 3).toNatClampNeg) < 29) ∧ True))))) := ⟨x0, ⟨x1, x2⟩⟩
  refine tr_101_0 G  ?_
  obtain ⟨q0, hob⟩ := hob
  refine ⟨q0, ?_⟩
  obtain ⟨q0, hob⟩ := hob
  refine ⟨q0, ?_⟩
  refine ⟨fun c9 => ?_, fun c9 => ?_⟩
  · try simp only [if_pos c9] at k
    have hob := hob.1 c9
    exact k
  · try simp only [if_neg c9] at k
    have hob := hob.2 c9
    obtain ⟨q0, hob⟩ := hob
    refine ⟨q0, ?_⟩
    refine ⟨fun c9 => ?_, fun c9 => ?_⟩
    · try simp only [if_pos c9] at k
      exact k
    · try simp only [if_neg c9] at k
      intro h6 eh6
      subst eh6
      exact k
/-! 38: StoneBacks$LawText.isOnTop(I)Z -/
set_option maxRecDepth 8000 in
theorem tr_38_0 {d : Nat} {h : mxH} {Q : mxO → mxH → Prop} {i1 : Int32} (G : mxG h)  (H : (((0 < (mx_i h 107 1) → (vp_in ((mx_i h 107 1) - 1) 64 ∧ True)) ∧ (¬ 0 < (mx_i h 107 1) → True)) ∧ (∀ (v1 : Int32), v1 = ((if 0 < (mx_i h 107 1) then (if (mx_i h 108 ((mx_i h 107 1) - 1).toNatClampNeg) = i1 then 1 else 0) else 0) : Int32) → Q (.inl (some (.int v1))) h))) : mx_wp d 38 0 (mx_fr 38 [.ref 107, .int i1]) [] h Q := by
  show mx_wp d 38 0 [some (.ref 107), some (.int i1)] [] h Q
  refine wp_steps (i' := 2) (ls' := [some (.ref 107), some (.int i1)]) (st' := [.int (mx_i h 107 1)]) (h' := h) (P := ((mxT 107).1 = 4 ∧ mxG h) ∧ True) 2 rfl rfl ⟨⟨(congrArg Prod.fst sT_107), G⟩, trivial⟩ ?_
  have J : ∀ (v1 : Int32) (ev1 : v1 = ((if 0 < (mx_i h 107 1) then (if (mx_i h 108 ((mx_i h 107 1) - 1).toNatClampNeg) = i1 then 1 else 0) else 0) : Int32)), mx_wp d 38 15 [some (.ref 107), some (.int i1)] [.int v1] h Q := by
    intro v1 ev1
    have H := H.2 v1 ev1
    exact wp_end (o := .inl (some (.int v1))) (h' := h) (P := (v1 = 0 ∨ v1 = 1)) rfl rfl (b01 ev1 (by repeat' (first | exact Or.inl rfl | exact Or.inr rfl | split))) H
  have H := H.1
  refine wp_br (P := True) (c := (mx_i h 107 1) ≤ 0) (t := 14) (st' := []) rfl rfl trivial (fun c2 => ?_) (fun c2 => ?_)
  · have c2 := Int32.not_lt.mpr c2
    refine wp_steps (i' := 15) (ls' := [some (.ref 107), some (.int i1)]) (st' := [.int 0]) (h' := h) (P := True) 1 rfl rfl trivial ?_
    exact J _ (by rw [if_neg c2])
  · have c2 := Int32.not_le.mp c2
    have H := H.1 c2
    obtain ⟨o3, H⟩ := H
    refine wp_steps (i' := 11) (ls' := [some (.ref 107), some (.int i1)]) (st' := [.int i1, .int (mx_i h 108 ((mx_i h 107 1) - 1).toNatClampNeg)]) (h' := h) (P := ((mxT 107).1 = 4 ∧ mxG h) ∧ ((mxT 107).1 = 4 ∧ mxG h) ∧ (((mxT 108).1 = 50 ∧ mxG h) ∧ vp_in ((mx_i h 107 1) - 1) (mxT 108).2) ∧ True) 8 rfl rfl ⟨⟨(congrArg Prod.fst sT_107), G⟩, ⟨(congrArg Prod.fst sT_107), G⟩, (cA sT_108 G o3), trivial⟩ ?_
    refine wp_br (P := True) (c := ¬ (mx_i h 108 ((mx_i h 107 1) - 1).toNatClampNeg) = i1) (t := 14) (st' := []) rfl rfl trivial (fun c4 => ?_) (fun c4 => ?_)
    · skip
      refine wp_steps (i' := 15) (ls' := [some (.ref 107), some (.int i1)]) (st' := [.int 0]) (h' := h) (P := True) 1 rfl rfl trivial ?_
      exact J _ (by rw [if_pos c2, if_neg c4])
    · have c4 := Decidable.of_not_not c4
      refine wp_steps (i' := 13) (ls' := [some (.ref 107), some (.int i1)]) (st' := [.int 1]) (h' := h) (P := True) 1 rfl rfl trivial ?_
      refine wp_J (j := 15) (st' := [.int 1]) rfl rfl ?_
      exact J _ (by rw [if_pos c2, if_pos c4])
def V_38 (h : mxH) (i1 : Int32) : Int32 := ((if 0 < (mx_i h 107 1) then (if (mx_i h 108 ((mx_i h 107 1) - 1).toNatClampNeg) = i1 then 1 else 0) else 0) : Int32)
theorem sp_38 {d : Nat} {h : mxH} {Q : mxO → mxH → Prop} {i1 : Int32} (G : mxG h)  (x0 : ((0 < (mx_i h 107 1) → (vp_in ((mx_i h 107 1) - 1) 64 ∧ True)) ∧ (¬ 0 < (mx_i h 107 1) → True))) (k : Q (.inl (some (.int (V_38 h i1)))) h) : mx_wp d 38 0 (mx_fr 38 [.ref 107, .int i1]) [] h Q := by
  unfold V_38 at k
  have hob : (((0 < (mx_i h 107 1) → (vp_in ((mx_i h 107 1) - 1) 64 ∧ True)) ∧ (¬ 0 < (mx_i h 107 1) → True)) ∧ True) := ⟨x0, trivial⟩
  refine tr_38_0 G  ?_
  obtain ⟨q0, hob⟩ := hob
  refine ⟨q0, ?_⟩
  intro v1 ev1
  subst ev1
  exact k
