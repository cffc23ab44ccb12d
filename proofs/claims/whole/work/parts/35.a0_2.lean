/-! 307: java/lang/String.length()I -/
set_option maxRecDepth 8000 in
theorem tr_307_0 {d : Nat} {h : mxH} {Q : mxO → mxH → Prop} {s0 : Nat} (G : mxG h)  (H : ((30 ≤ s0 ∧ s0 < 82 ∧ s0 % 2 = 0) ∧ (31 ≤ (s0 + 1) ∧ (s0 + 1) < 83 ∧ (s0 + 1) % 2 = 1) ∧ ((((1 : Int32) = 0 → True) ∧ (¬ (1 : Int32) = 0 → ((30 ≤ s0 ∧ s0 < 82 ∧ s0 % 2 = 0) ∧ True))) ∧ (narrow .byte (.int ((if (1 : Int32) = 0 then 1 else 0) : Int32)) = .int ((if (1 : Int32) = 0 then 1 else 0) : Int32)) ∧ Q (.inl (some (.int ((nI (mxSl (s0 + 1))) >>> ((V_309 h s0) &&& 31))))) h))) : mx_wp (d + 1) 307 0 (mx_fr 307 [.ref s0]) [] h Q := by
  show mx_wp (d + 1) 307 0 [some (.ref s0)] [] h Q
  obtain ⟨o1, o2, H⟩ := H
  refine wp_steps (i' := 4) (ls' := [some (.ref s0)]) (st' := [.ref s0, .int (nI (mxSl (s0 + 1)))]) (h' := h) (P := (30 ≤ s0 ∧ s0 < 82 ∧ s0 % 2 = 0) ∧ (31 ≤ (s0 + 1) ∧ (s0 + 1) < 83 ∧ (s0 + 1) % 2 = 1) ∧ True) 4 rfl rfl ⟨o1, o2, trivial⟩ ?_
  obtain ⟨o3, o4, H⟩ := H
  refine wp_call (b := false) (y' := 309) (as := [.ref s0]) (rest := [.int (nI (mxSl (s0 + 1)))]) (P := (30 ≤ s0 ∧ s0 < 82 ∧ s0 % 2 = 0)) rfl (by with_unfolding_all rfl) o1 (Nat.le_of_ble_eq_true rfl) (sp_309 G o3 o4 ?_)
  show mx_wp (d + 1) 307 5 [some (.ref s0)] [.int (V_309 h s0), .int (nI (mxSl (s0 + 1)))] h Q
  refine wp_steps (i' := 6) (ls' := [some (.ref s0)]) (st' := [.int ((nI (mxSl (s0 + 1))) >>> ((V_309 h s0) &&& 31))]) (h' := h) (P := True) 1 rfl rfl trivial ?_
  exact wp_end (o := .inl (some (.int ((nI (mxSl (s0 + 1))) >>> ((V_309 h s0) &&& 31))))) (h' := h) (P := True) rfl rfl trivial H
def V_307 (h : mxH) (s0 : Nat) : Int32 := ((nI (mxSl (s0 + 1))) >>> ((V_309 h s0) &&& 31))
theorem sp_307 {d : Nat} {h : mxH} {Q : mxO → mxH → Prop} {s0 : Nat} (G : mxG h)  (x0 : (30 ≤ s0 ∧ s0 < 82 ∧ s0 % 2 = 0)) (x1 : (31 ≤ (s0 + 1) ∧ (s0 + 1) < 83 ∧ (s0 + 1) % 2 = 1)) (x2 : (((1 : Int32) = 0 → True) ∧ (¬ (1 : Int32) = 0 → ((30 ≤ s0 ∧ s0 < 82 ∧ s0 % 2 = 0) ∧ True)))) (x3 : (narrow .byte (.int ((if (1 : Int32) = 0 then 1 else 0) : Int32)) = .int ((if (1 : Int32) = 0 then 1 else 0) : Int32))) (k : Q (.inl (some (.int (V_307 h s0)))) h) : mx_wp (d + 1) 307 0 (mx_fr 307 [.ref s0]) [] h Q := by
  unfold V_307 at k
  have hob : ((30 ≤ s0 ∧ s0 < 82 ∧ s0 % 2 = 0) ∧ (31 ≤ (s0 + 1) ∧ (s0 + 1) < 83 ∧ (s0 + 1) % 2 = 1) ∧ ((((1 : Int32) = 0 → True) ∧ (¬ (1 : Int32) = 0 → ((30 ≤ s0 ∧ s0 < 82 ∧ s0 % 2 = 0) ∧ True))) ∧ (narrow .byte (.int ((if (1 : Int32) = 0 then 1 else 0) : Int32)) = .int ((if (1 : Int32) = 0 then 1 else 0) : Int32)) ∧ True)) := ⟨x0, x1, ⟨x2, x3, trivial⟩⟩
  refine tr_307_0 G  ?_
  obtain ⟨q0, q1, hob⟩ := hob
  refine ⟨q0, q1, ?_⟩
  obtain ⟨q0, q1, hob⟩ := hob
  refine ⟨q0, q1, ?_⟩
  exact k
/-! 310: java/lang/String.isLatin1()Z -/
set_option maxRecDepth 8000 in
theorem tr_310_0 {d : Nat} {h : mxH} {Q : mxO → mxH → Prop} {s0 : Nat} (G : mxG h)  (H : ((((1 : Int32) = 0 → True) ∧ (¬ (1 : Int32) = 0 → ((30 ≤ s0 ∧ s0 < 82 ∧ s0 % 2 = 0) ∧ True))) ∧ (∀ (v1 : Int32), v1 = ((if (1 : Int32) = 0 then 0 else (if (0 : Int32) = 0 then 1 else 0)) : Int32) → Q (.inl (some (.int v1))) h))) : mx_wp d 310 0 (mx_fr 310 [.ref s0]) [] h Q := by
  show mx_wp d 310 0 [some (.ref s0)] [] h Q
  refine wp_steps (i' := 1) (ls' := [some (.ref s0)]) (st' := [.int 1]) (h' := h) (P := True) 1 rfl rfl trivial ?_
  have J : ∀ (v1 : Int32) (ev1 : v1 = ((if (1 : Int32) = 0 then 0 else (if (0 : Int32) = 0 then 1 else 0)) : Int32)), mx_wp d 310 8 [some (.ref s0)] [.int v1] h Q := by
    intro v1 ev1
    have H := H.2 v1 ev1
    exact wp_end (o := .inl (some (.int v1))) (h' := h) (P := (v1 = 0 ∨ v1 = 1)) rfl rfl (b01 ev1 (by repeat' (first | exact Or.inl rfl | exact Or.inr rfl | split))) H
  have H := H.1
  refine wp_br (P := True) (c := (1 : Int32) = 0) (t := 7) (st' := []) rfl rfl trivial (fun c2 => ?_) (fun c2 => ?_)
  · skip
    refine wp_steps (i' := 8) (ls' := [some (.ref s0)]) (st' := [.int 0]) (h' := h) (P := True) 1 rfl rfl trivial ?_
    exact J _ (by rw [if_pos c2])
  · skip
    have H := H.2 c2
    obtain ⟨o3, H⟩ := H
    refine wp_steps (i' := 4) (ls' := [some (.ref s0)]) (st' := [.int 0]) (h' := h) (P := (30 ≤ s0 ∧ s0 < 82 ∧ s0 % 2 = 0) ∧ True) 2 rfl rfl ⟨o3, trivial⟩ ?_
    refine wp_br (P := True) (c := ¬ (0 : Int32) = 0) (t := 7) (st' := []) rfl rfl trivial (fun c4 => ?_) (fun c4 => ?_)
    · skip
      refine wp_steps (i' := 8) (ls' := [some (.ref s0)]) (st' := [.int 0]) (h' := h) (P := True) 1 rfl rfl trivial ?_
      exact J _ (by rw [if_neg c2, if_neg c4])
    · have c4 := Decidable.of_not_not c4
      refine wp_steps (i' := 6) (ls' := [some (.ref s0)]) (st' := [.int 1]) (h' := h) (P := True) 1 rfl rfl trivial ?_
      refine wp_J (j := 8) (st' := [.int 1]) rfl rfl ?_
      exact J _ (by rw [if_neg c2, if_pos c4])
def V_310 (h : mxH) (s0 : Nat) : Int32 := ((if (1 : Int32) = 0 then 0 else (if (0 : Int32) = 0 then 1 else 0)) : Int32)
theorem sp_310 {d : Nat} {h : mxH} {Q : mxO → mxH → Prop} {s0 : Nat} (G : mxG h)  (x0 : (((1 : Int32) = 0 → True) ∧ (¬ (1 : Int32) = 0 → ((30 ≤ s0 ∧ s0 < 82 ∧ s0 % 2 = 0) ∧ True)))) (k : Q (.inl (some (.int (V_310 h s0)))) h) : mx_wp d 310 0 (mx_fr 310 [.ref s0]) [] h Q := by
  unfold V_310 at k
  have hob : ((((1 : Int32) = 0 → True) ∧ (¬ (1 : Int32) = 0 → ((30 ≤ s0 ∧ s0 < 82 ∧ s0 % 2 = 0) ∧ True))) ∧ True) := ⟨x0, trivial⟩
  refine tr_310_0 G  ?_
  obtain ⟨q0, hob⟩ := hob
  refine ⟨q0, ?_⟩
  intro v1 ev1
  subst ev1
  exact k
/-! 94: StoneBacks$Tape.beginOfToken()I -/
set_option maxRecDepth 8000 in
theorem tr_94_0 {d : Nat} {h : mxH} {Q : mxO → mxH → Prop}  (G : mxG h)  (H : (vp_in (mx_i h 101 3) 401 ∧ Q (.inl (some (.int (mx_i h 104 (mx_i h 101 3).toNatClampNeg)))) h)) : mx_wp d 94 0 (mx_fr 94 [.ref 101]) [] h Q := by
  show mx_wp d 94 0 [some (.ref 101)] [] h Q
  obtain ⟨o1, H⟩ := H
  refine wp_steps (i' := 5) (ls' := [some (.ref 101)]) (st' := [.int (mx_i h 104 (mx_i h 101 3).toNatClampNeg)]) (h' := h) (P := ((mxT 101).1 = 8 ∧ mxG h) ∧ ((mxT 101).1 = 8 ∧ mxG h) ∧ (((mxT 104).1 = 50 ∧ mxG h) ∧ vp_in (mx_i h 101 3) (mxT 104).2) ∧ True) 5 rfl rfl ⟨⟨(congrArg Prod.fst sT_101), G⟩, ⟨(congrArg Prod.fst sT_101), G⟩, (cA sT_104 G o1), trivial⟩ ?_
  exact wp_end (o := .inl (some (.int (mx_i h 104 (mx_i h 101 3).toNatClampNeg)))) (h' := h) (P := True) rfl rfl trivial H
def V_94 (h : mxH) : Int32 := (mx_i h 104 (mx_i h 101 3).toNatClampNeg)
theorem sp_94 {d : Nat} {h : mxH} {Q : mxO → mxH → Prop}  (G : mxG h)  (x0 : vp_in (mx_i h 101 3) 401) (k : Q (.inl (some (.int (V_94 h)))) h) : mx_wp d 94 0 (mx_fr 94 [.ref 101]) [] h Q := by
  unfold V_94 at k
  have hob : (vp_in (mx_i h 101 3) 401 ∧ True) := ⟨x0, trivial⟩
  refine tr_94_0 G  ?_
  obtain ⟨q0, hob⟩ := hob
  refine ⟨q0, ?_⟩
  exact k
/-! 104: StoneBacks$Valley.writeRow(II)V -/
set_option maxRecDepth 8000 in
theorem tr_104_0 {d : Nat} {h : mxH} {Q : mxO → mxH → Prop} {a : Nat} {i1 : Int32} {i2 : Int32} (G : mxG h) (hVa : (mxT a).1 = 9) (H : (vp_in i1 10 ∧ ((((mx_i h (a + 13) 0) < 60 → (vp_in ((mx_i h (a + 13) 0) * 4) 240 ∧ (vp_in (((mx_i h (a + 13) 0) * 4) + 1) 240 ∧ (vp_in (((mx_i h (a + 13) 0) * 4) + 2) 240 ∧ (vp_in (((mx_i h (a + 13) 0) * 4) + 3) 240 ∧ True))))) ∧ (¬ (mx_i h (a + 13) 0) < 60 → (vp_in ((mx_i (mx_wi (mx_wrow h (a + 14) (va_cpy (mx_i h (a + 14)) (mx_i h (a + 14)) 4 0 236)) (a + 13) 0 59) (a + 13) 0) * 4) 240 ∧ (vp_in (((mx_i (mx_wi (mx_wrow h (a + 14) (va_cpy (mx_i h (a + 14)) (mx_i h (a + 14)) 4 0 236)) (a + 13) 0 59) (a + 13) 0) * 4) + 1) 240 ∧ (vp_in (((mx_i (mx_wi (mx_wrow h (a + 14) (va_cpy (mx_i h (a + 14)) (mx_i h (a + 14)) 4 0 236)) (a + 13) 0 59) (a + 13) 0) * 4) + 2) 240 ∧ (vp_in (((mx_i (mx_wi (mx_wrow h (a + 14) (va_cpy (mx_i h (a + 14)) (mx_i h (a + 14)) 4 0 236)) (a + 13) 0 59) (a + 13) 0) * 4) + 3) 240 ∧ True)))))) ∧ (∀ h3, h3 = W_2 h a (mx_i h a 6) i1 i2 (mx_i h (a + 10) i1.toNatClampNeg) → Q (.inl none) h3)))) : mx_wp (d + 1) 104 0 (mx_fr 104 [.ref a, .int i1, .int i2]) [] h Q := by
  show mx_wp (d + 1) 104 0 [some (.ref a), some (.int i1), some (.int i2)] [] h Q
  obtain ⟨o1, H⟩ := H
  refine wp_steps (i' := 11) (ls' := [some (.ref a), some (.int i1), some (.int i2)]) (st' := [.int (mx_i h (a + 10) i1.toNatClampNeg), .int i2, .int i1, .int (mx_i h a 6), .ref (a + 13)]) (h' := h) (P := ((mxT a).1 = 9 ∧ mxG h) ∧ ((mxT a).1 = 9 ∧ mxG h) ∧ ((mxT a).1 = 9 ∧ mxG h) ∧ ((mxT (a + 7)).1 = 7 ∧ mxG h) ∧ (((mxT (a + 10)).1 = 50 ∧ mxG h) ∧ vp_in i1 (mxT (a + 10)).2) ∧ True) 11 rfl rfl ⟨⟨(congrArg Prod.fst (sV_0 hVa)), G⟩, ⟨(congrArg Prod.fst (sV_0 hVa)), G⟩, ⟨(congrArg Prod.fst (sV_0 hVa)), G⟩, ⟨(congrArg Prod.fst (sV_7 hVa)), G⟩, (cA (sV_10 hVa) G o1), trivial⟩ ?_
  obtain ⟨o2, H⟩ := H
  refine wp_call (b := false) (y' := 2) (as := [.ref (a + 13), .int (mx_i h a 6), .int i1, .int i2, .int (mx_i h (a + 10) i1.toNatClampNeg)]) (rest := []) (P := ((mxT (a + 13)).1 = mxRc 2 ∧ mxG h)) rfl (by with_unfolding_all rfl) ⟨(congrArg Prod.fst (sV_13 hVa)), G⟩ (Nat.le_of_ble_eq_true rfl) (sp_2 G hVa o2 ?_)
  show mx_wp (d + 1) 104 12 [some (.ref a), some (.int i1), some (.int i2)] [] (W_2 h a (mx_i h a 6) i1 i2 (mx_i h (a + 10) i1.toNatClampNeg)) Q
  obtain ⟨h3, e4⟩ : ∃ z9, z9 = W_2 h a (mx_i h a 6) i1 i2 (mx_i h (a + 10) i1.toNatClampNeg) := ⟨_, rfl⟩
  rw [← e4]
  have H := H h3 e4
  have K6 : mxK h h3 := e4 ▸ KW_2
  have G5 : mxG h3 := mxK_G K6 G
  exact wp_end (o := .inl none) (h' := h3) (P := True) rfl rfl trivial H
def W_104 (h : mxH) (a : Nat) (i1 : Int32) (i2 : Int32) : mxH := (W_2 h a (mx_i h a 6) i1 i2 (mx_i h (a + 10) i1.toNatClampNeg))
theorem KW_104 {h : mxH} {a : Nat} {i1 : Int32} {i2 : Int32} : mxK h (W_104 h a i1 i2) := by
  unfold W_104
  repeat' (first | with_reducible exact mxK_rfl | with_reducible exact mxK_wi | with_reducible exact mxK_wrow | with_reducible refine mxK_ite ?_ ?_ | with_reducible refine mxK_tr ?_ mxK_wi | with_reducible refine mxK_tr ?_ mxK_wrow | with_reducible exact KW_2 | with_reducible refine mxK_tr ?_ KW_2)
theorem sp_104 {d : Nat} {h : mxH} {Q : mxO → mxH → Prop} {a : Nat} {i1 : Int32} {i2 : Int32} (G : mxG h) (hVa : (mxT a).1 = 9) (x0 : vp_in i1 10) (x1 : (((mx_i h (a + 13) 0) < 60 → (vp_in ((mx_i h (a + 13) 0) * 4) 240 ∧ (vp_in (((mx_i h (a + 13) 0) * 4) + 1) 240 ∧ (vp_in (((mx_i h (a + 13) 0) * 4) + 2) 240 ∧ (vp_in (((mx_i h (a + 13) 0) * 4) + 3) 240 ∧ True))))) ∧ (¬ (mx_i h (a + 13) 0) < 60 → (vp_in ((mx_i (mx_wi (mx_wrow h (a + 14) (va_cpy (mx_i h (a + 14)) (mx_i h (a + 14)) 4 0 236)) (a + 13) 0 59) (a + 13) 0) * 4) 240 ∧ (vp_in (((mx_i (mx_wi (mx_wrow h (a + 14) (va_cpy (mx_i h (a + 14)) (mx_i h (a + 14)) 4 0 236)) (a + 13) 0 59) (a + 13) 0) * 4) + 1) 240 ∧ (vp_in (((mx_i (mx_wi (mx_wrow h (a + 14) (va_cpy (mx_i h (a + 14)) (mx_i h (a + 14)) 4 0 236)) (a + 13) 0 59) (a + 13) 0) * 4) + 2) 240 ∧ (vp_in (((mx_i (mx_wi (mx_wrow h (a + 14) (va_cpy (mx_i h (a + 14)) (mx_i h (a + 14)) 4 0 236)) (a + 13) 0 59) (a + 13) 0) * 4) + 3) 240 ∧ True))))))) (k : Q (.inl none) (W_104 h a i1 i2)) : mx_wp (d + 1) 104 0 (mx_fr 104 [.ref a, .int i1, .int i2]) [] h Q := by
  unfold W_104 at k
  have hob : (vp_in i1 10 ∧ ((((mx_i h (a + 13) 0) < 60 → (vp_in ((mx_i h (a + 13) 0) * 4) 240 ∧ (vp_in (((mx_i h (a + 13) 0) * 4) + 1) 240 ∧ (vp_in (((mx_i h (a + 13) 0) * 4) + 2) 240 ∧ (vp_in (((mx_i h (a + 13) 0) * 4) + 3) 240 ∧ True))))) ∧ (¬ (mx_i h (a + 13) 0) < 60 → (vp_in ((mx_i (mx_wi (mx_wrow h (a + 14) (va_cpy (mx_i h (a + 14)) (mx_i h (a + 14)) 4 0 236)) (a + 13) 0 59) (a + 13) 0) * 4) 240 ∧ (vp_in (((mx_i (mx_wi (mx_wrow h (a + 14) (va_cpy (mx_i h (a + 14)) (mx_i h (a + 14)) 4 0 236)) (a + 13) 0 59) (a + 13) 0) * 4) + 1) 240 ∧ (vp_in (((mx_i (mx_wi (mx_wrow h (a + 14) (va_cpy (mx_i h (a + 14)) (mx_i h (a + 14)) 4 0 236)) (a + 13) 0 59) (a + 13) 0) * 4) + 2) 240 ∧ (vp_in (((mx_i (mx_wi (mx_wrow h (a + 14) (va_cpy (mx_i h (a + 14)) (mx_i h (a + 14)) 4 0 236)) (a + 13) 0 59) (a + 13) 0) * 4) + 3) 240 ∧ True)))))) ∧ True)) := ⟨x0, ⟨x1, trivial⟩⟩
  refine tr_104_0 G hVa ?_
  obtain ⟨q0, hob⟩ := hob
  refine ⟨q0, ?_⟩
  obtain ⟨q0, hob⟩ := hob
  refine ⟨q0, ?_⟩
  intro h3 eh3
  subst eh3
  exact k
/-! 105: StoneBacks$Valley.hasPorch(I)Z -/
set_option maxRecDepth 8000 in
theorem tr_105_0 {d : Nat} {h : mxH} {Q : mxO → mxH → Prop} {a : Nat} {i1 : Int32} (G : mxG h) (hVa : (mxT a).1 = 9) (H : (∀ (v1 : Int32), v1 = ((if (((mx_i h a 4) >>> (i1 &&& 31)) &&& 1) = 1 then 1 else 0) : Int32) → Q (.inl (some (.int v1))) h)) : mx_wp d 105 0 (mx_fr 105 [.ref a, .int i1]) [] h Q := by
  show mx_wp d 105 0 [some (.ref a), some (.int i1)] [] h Q
  refine wp_steps (i' := 7) (ls' := [some (.ref a), some (.int i1)]) (st' := [.int 1, .int (((mx_i h a 4) >>> (i1 &&& 31)) &&& 1)]) (h' := h) (P := ((mxT a).1 = 9 ∧ mxG h) ∧ True) 7 rfl rfl ⟨⟨(congrArg Prod.fst (sV_0 hVa)), G⟩, trivial⟩ ?_
  have J : ∀ (v1 : Int32) (ev1 : v1 = ((if (((mx_i h a 4) >>> (i1 &&& 31)) &&& 1) = 1 then 1 else 0) : Int32)), mx_wp d 105 11 [some (.ref a), some (.int i1)] [.int v1] h Q := by
    intro v1 ev1
    have H := H v1 ev1
    exact wp_end (o := .inl (some (.int v1))) (h' := h) (P := (v1 = 0 ∨ v1 = 1)) rfl rfl (b01 ev1 (by repeat' (first | exact Or.inl rfl | exact Or.inr rfl | split))) H
  refine wp_br (P := True) (c := ¬ (((mx_i h a 4) >>> (i1 &&& 31)) &&& 1) = 1) (t := 10) (st' := []) rfl rfl trivial (fun c2 => ?_) (fun c2 => ?_)
  · skip
    refine wp_steps (i' := 11) (ls' := [some (.ref a), some (.int i1)]) (st' := [.int 0]) (h' := h) (P := True) 1 rfl rfl trivial ?_
    exact J _ (by rw [if_neg c2])
  · have c2 := Decidable.of_not_not c2
    refine wp_steps (i' := 9) (ls' := [some (.ref a), some (.int i1)]) (st' := [.int 1]) (h' := h) (P := True) 1 rfl rfl trivial ?_
    refine wp_J (j := 11) (st' := [.int 1]) rfl rfl ?_
    exact J _ (by rw [if_pos c2])
def V_105 (h : mxH) (a : Nat) (i1 : Int32) : Int32 := ((if (((mx_i h a 4) >>> (i1 &&& 31)) &&& 1) = 1 then 1 else 0) : Int32)
theorem sp_105 {d : Nat} {h : mxH} {Q : mxO → mxH → Prop} {a : Nat} {i1 : Int32} (G : mxG h) (hVa : (mxT a).1 = 9) (k : Q (.inl (some (.int (V_105 h a i1)))) h) : mx_wp d 105 0 (mx_fr 105 [.ref a, .int i1]) [] h Q := by
  unfold V_105 at k
  refine tr_105_0 G hVa ?_
  intro v1 ev1
  subst ev1
  exact k
/-! 106: StoneBacks$Valley.isBowed(I)Z -/
set_option maxRecDepth 8000 in
theorem tr_106_0 {d : Nat} {h : mxH} {Q : mxO → mxH → Prop} {a : Nat} {i1 : Int32} (G : mxG h) (hVa : (mxT a).1 = 9) (H : ((((V_49 h a i1) = 0 → (vp_in i1 6 ∧ (((mx_i h (a + 6) i1.toNatClampNeg) = 99 → True) ∧ (¬ (mx_i h (a + 6) i1.toNatClampNeg) = 99 → (cB (mx_i h (a + 7) 0) 10 ∧ True))))) ∧ (¬ (V_49 h a i1) = 0 → True)) ∧ (∀ (v1 : Int32), v1 = ((if (V_49 h a i1) = 0 then (if (mx_i h (a + 6) i1.toNatClampNeg) = 99 then 1 else (if (mx_i h (a + 3) i1.toNatClampNeg) < (V_77 h a i1) then 1 else 0)) else 1) : Int32) → Q (.inl (some (.int v1))) h))) : mx_wp (d + 1) 106 0 (mx_fr 106 [.ref a, .int i1]) [] h Q := by
  show mx_wp (d + 1) 106 0 [some (.ref a), some (.int i1)] [] h Q
  refine wp_steps (i' := 3) (ls' := [some (.ref a), some (.int i1)]) (st' := [.int i1, .ref (a + 1)]) (h' := h) (P := ((mxT a).1 = 9 ∧ mxG h) ∧ True) 3 rfl rfl ⟨⟨(congrArg Prod.fst (sV_0 hVa)), G⟩, trivial⟩ ?_
  refine wp_call (b := false) (y' := 49) (as := [.ref (a + 1), .int i1]) (rest := []) (P := ((mxT (a + 1)).1 = mxRc 49 ∧ mxG h)) rfl (by with_unfolding_all rfl) ⟨(congrArg Prod.fst (sV_1 hVa)), G⟩ (Nat.le_of_ble_eq_true rfl) (sp_49 G hVa ?_)
  show mx_wp (d + 1) 106 4 [some (.ref a), some (.int i1)] [.int (V_49 h a i1)] h Q
  have J : ∀ (v1 : Int32) (ev1 : v1 = ((if (V_49 h a i1) = 0 then (if (mx_i h (a + 6) i1.toNatClampNeg) = 99 then 1 else (if (mx_i h (a + 3) i1.toNatClampNeg) < (V_77 h a i1) then 1 else 0)) else 1) : Int32)), mx_wp (d + 1) 106 25 [some (.ref a), some (.int i1)] [.int v1] h Q := by
    intro v1 ev1
    have H := H.2 v1 ev1
    exact wp_end (o := .inl (some (.int v1))) (h' := h) (P := (v1 = 0 ∨ v1 = 1)) rfl rfl (b01 ev1 (by repeat' (first | exact Or.inl rfl | exact Or.inr rfl | split))) H
  have H := H.1
  refine wp_br (P := True) (c := ¬ (V_49 h a i1) = 0) (t := 22) (st' := []) rfl rfl trivial (fun c2 => ?_) (fun c2 => ?_)
  · skip
    refine wp_steps (i' := 23) (ls' := [some (.ref a), some (.int i1)]) (st' := [.int 1]) (h' := h) (P := True) 1 rfl rfl trivial ?_
    refine wp_J (j := 25) (st' := [.int 1]) rfl rfl ?_
    exact J _ (by rw [if_neg c2])
  · have c2 := Decidable.of_not_not c2
    have H := H.1 c2
    obtain ⟨o3, H⟩ := H
    refine wp_steps (i' := 11) (ls' := [some (.ref a), some (.int i1)]) (st' := [.int 99, .int (mx_i h (a + 6) i1.toNatClampNeg)]) (h' := h) (P := ((mxT a).1 = 9 ∧ mxG h) ∧ ((mxT (a + 1)).1 = 5 ∧ mxG h) ∧ (((mxT (a + 6)).1 = 50 ∧ mxG h) ∧ vp_in i1 (mxT (a + 6)).2) ∧ True) 6 rfl rfl ⟨⟨(congrArg Prod.fst (sV_0 hVa)), G⟩, ⟨(congrArg Prod.fst (sV_1 hVa)), G⟩, (cA (sV_6 hVa) G o3), trivial⟩ ?_
    refine wp_br (P := True) (c := (mx_i h (a + 6) i1.toNatClampNeg) = 99) (t := 22) (st' := []) rfl rfl trivial (fun c4 => ?_) (fun c4 => ?_)
    · skip
      refine wp_steps (i' := 23) (ls' := [some (.ref a), some (.int i1)]) (st' := [.int 1]) (h' := h) (P := True) 1 rfl rfl trivial ?_
      refine wp_J (j := 25) (st' := [.int 1]) rfl rfl ?_
      exact J _ (by rw [if_pos c2, if_pos c4])
    · skip
      have H := H.2 c4
      refine wp_steps (i' := 15) (ls' := [some (.ref a), some (.int i1)]) (st' := [.int i1, .ref (a + 7)]) (h' := h) (P := ((mxT a).1 = 9 ∧ mxG h) ∧ True) 3 rfl rfl ⟨⟨(congrArg Prod.fst (sV_0 hVa)), G⟩, trivial⟩ ?_
      obtain ⟨o5, H⟩ := H
      refine wp_call (b := false) (y' := 77) (as := [.ref (a + 7), .int i1]) (rest := []) (P := ((mxT (a + 7)).1 = mxRc 77 ∧ mxG h)) rfl (by with_unfolding_all rfl) ⟨(congrArg Prod.fst (sV_7 hVa)), G⟩ (Nat.le_of_ble_eq_true rfl) (sp_77 G hVa o5 ?_)
      show mx_wp (d + 1) 106 16 [some (.ref a), some (.int i1)] [.int (V_77 h a i1)] h Q
      refine wp_steps (i' := 21) (ls' := [some (.ref a), some (.int i1)]) (st' := [.int (mx_i h (a + 3) i1.toNatClampNeg), .int (V_77 h a i1)]) (h' := h) (P := ((mxT a).1 = 9 ∧ mxG h) ∧ ((mxT (a + 1)).1 = 5 ∧ mxG h) ∧ (((mxT (a + 3)).1 = 50 ∧ mxG h) ∧ vp_in i1 (mxT (a + 3)).2) ∧ True) 5 rfl rfl ⟨⟨(congrArg Prod.fst (sV_0 hVa)), G⟩, ⟨(congrArg Prod.fst (sV_1 hVa)), G⟩, (cA (sV_3 hVa) G o3), trivial⟩ ?_
      refine wp_br (P := True) (c := (V_77 h a i1) ≤ (mx_i h (a + 3) i1.toNatClampNeg)) (t := 24) (st' := []) rfl rfl trivial (fun c6 => ?_) (fun c6 => ?_)
      · have c6 := Int32.not_lt.mpr c6
        refine wp_steps (i' := 25) (ls' := [some (.ref a), some (.int i1)]) (st' := [.int 0]) (h' := h) (P := True) 1 rfl rfl trivial ?_
        exact J _ (by rw [if_pos c2, if_neg c4, if_neg c6])
      · have c6 := Int32.not_le.mp c6
        refine wp_steps (i' := 23) (ls' := [some (.ref a), some (.int i1)]) (st' := [.int 1]) (h' := h) (P := True) 1 rfl rfl trivial ?_
        refine wp_J (j := 25) (st' := [.int 1]) rfl rfl ?_
        exact J _ (by rw [if_pos c2, if_neg c4, if_pos c6])
def V_106 (h : mxH) (a : Nat) (i1 : Int32) : Int32 := ((if (V_49 h a i1) = 0 then (if (mx_i h (a + 6) i1.toNatClampNeg) = 99 then 1 else (if (mx_i h (a + 3) i1.toNatClampNeg) < (V_77 h a i1) then 1 else 0)) else 1) : Int32)
theorem sp_106 {d : Nat} {h : mxH} {Q : mxO → mxH → Prop} {a : Nat} {i1 : Int32} (G : mxG h) (hVa : (mxT a).1 = 9) (x0 : (((V_49 h a i1) = 0 → (vp_in i1 6 ∧ (((mx_i h (a + 6) i1.toNatClampNeg) = 99 → True) ∧ (¬ (mx_i h (a + 6) i1.toNatClampNeg) = 99 → (cB (mx_i h (a + 7) 0) 10 ∧ True))))) ∧ (¬ (V_49 h a i1) = 0 → True))) (k : Q (.inl (some (.int (V_106 h a i1)))) h) : mx_wp (d + 1) 106 0 (mx_fr 106 [.ref a, .int i1]) [] h Q := by
  unfold V_106 at k
  have hob : ((((V_49 h a i1) = 0 → (vp_in i1 6 ∧ (((mx_i h (a + 6) i1.toNatClampNeg) = 99 → True) ∧ (¬ (mx_i h (a + 6) i1.toNatClampNeg) = 99 → (cB (mx_i h (a + 7) 0) 10 ∧ True))))) ∧ (¬ (V_49 h a i1) = 0 → True)) ∧ True) := ⟨x0, trivial⟩
  refine tr_106_0 G hVa ?_
  obtain ⟨q0, hob⟩ := hob
  refine ⟨q0, ?_⟩
  intro v1 ev1
  subst ev1
  exact k
/-! 107: StoneBacks$Valley.firstBowed()I -/
def H_107_2 (d : Nat) (h : mxH) (a : Nat) (i1 : Int32) (Q : mxO → mxH → Prop) : Prop := mx_wp d 107 2 [some (.ref a), some (.int i1)] [] h Q
set_option maxRecDepth 8000 in
theorem tr_107_0 {d : Nat} {h : mxH} {Q : mxO → mxH → Prop} {a : Nat} (G : mxG h) (hVa : (mxT a).1 = 9) (H : H_107_2 (d + 2) h a 0 Q) : mx_wp (d + 2) 107 0 (mx_fr 107 [.ref a]) [] h Q := by
  show mx_wp (d + 2) 107 0 [some (.ref a), none] [] h Q
  refine wp_steps (i' := 2) (ls' := [some (.ref a), some (.int 0)]) (st' := []) (h' := h) (P := True) 2 rfl rfl trivial ?_
  exact H 
set_option maxRecDepth 8000 in
theorem tr_107_2 {d : Nat} {h : mxH} {Q : mxO → mxH → Prop} {a : Nat} {i1 : Int32} (G : mxG h) (hVa : (mxT a).1 = 9) (H : ((i1 < (mx_i h (a + 1) 0) → ((((V_49 h a i1) = 0 → (vp_in i1 6 ∧ (((mx_i h (a + 6) i1.toNatClampNeg) = 99 → True) ∧ (¬ (mx_i h (a + 6) i1.toNatClampNeg) = 99 → (cB (mx_i h (a + 7) 0) 10 ∧ True))))) ∧ (¬ (V_49 h a i1) = 0 → True)) ∧ (((V_106 h a i1) = 0 → H_107_2 (d + 2) h a (i1 + 1) Q) ∧ (¬ (V_106 h a i1) = 0 → Q (.inl (some (.int i1))) h)))) ∧ (¬ i1 < (mx_i h (a + 1) 0) → Q (.inl (some (.int (-1)))) h))) : H_107_2 (d + 2) h a i1 Q := by
  show mx_wp (d + 2) 107 2 [some (.ref a), some (.int i1)] [] h Q
  refine wp_steps (i' := 6) (ls' := [some (.ref a), some (.int i1)]) (st' := [.int (mx_i h (a + 1) 0), .int i1]) (h' := h) (P := ((mxT a).1 = 9 ∧ mxG h) ∧ ((mxT (a + 1)).1 = 5 ∧ mxG h) ∧ True) 4 rfl rfl ⟨⟨(congrArg Prod.fst (sV_0 hVa)), G⟩, ⟨(congrArg Prod.fst (sV_1 hVa)), G⟩, trivial⟩ ?_
  refine wp_br (P := True) (c := (mx_i h (a + 1) 0) ≤ i1) (t := 15) (st' := []) rfl rfl trivial (fun c1 => ?_) (fun c1 => ?_)
  · have c1 := Int32.not_lt.mpr c1
    have H := H.2 c1
    refine wp_steps (i' := 16) (ls' := [some (.ref a), some (.int i1)]) (st' := [.int (-1)]) (h' := h) (P := True) 1 rfl rfl trivial ?_
    exact wp_end (o := .inl (some (.int (-1)))) (h' := h) (P := True) rfl rfl trivial H
  · have c1 := Int32.not_le.mp c1
    have H := H.1 c1
    refine wp_steps (i' := 9) (ls' := [some (.ref a), some (.int i1)]) (st' := [.int i1, .ref a]) (h' := h) (P := True) 2 rfl rfl trivial ?_
    obtain ⟨o2, H⟩ := H
    refine wp_call (b := false) (y' := 106) (as := [.ref a, .int i1]) (rest := []) (P := ((mxT a).1 = mxRc 106 ∧ mxG h)) rfl (by with_unfolding_all rfl) ⟨(congrArg Prod.fst (sV_0 hVa)), G⟩ (Nat.le_of_ble_eq_true rfl) (sp_106 G hVa o2 ?_)
    show mx_wp (d + 2) 107 10 [some (.ref a), some (.int i1)] [.int (V_106 h a i1)] h Q
    refine wp_br (P := True) (c := (V_106 h a i1) = 0) (t := 13) (st' := []) rfl rfl trivial (fun c3 => ?_) (fun c3 => ?_)
    · skip
      have H := H.1 c3
      refine wp_steps (i' := 14) (ls' := [some (.ref a), some (.int (i1 + 1))]) (st' := []) (h' := h) (P := True) 1 rfl rfl trivial ?_
      refine wp_J (j := 2) (st' := []) rfl rfl ?_
      exact H 
    · skip
      have H := H.2 c3
      refine wp_steps (i' := 12) (ls' := [some (.ref a), some (.int i1)]) (st' := [.int i1]) (h' := h) (P := True) 1 rfl rfl trivial ?_
      exact wp_end (o := .inl (some (.int i1))) (h' := h) (P := True) rfl rfl trivial H
/-! 108: StoneBacks$Valley.placeOfStone(I)I -/
set_option maxRecDepth 8000 in
theorem tr_108_0 {d : Nat} {h : mxH} {Q : mxO → mxH → Prop} {a : Nat} {i1 : Int32} (G : mxG h) (hVa : (mxT a).1 = 9) (H : (vp_in i1 10 ∧ (((mx_i h (a + 11) i1.toNatClampNeg) = 0 → (vp_in (mx_i h (a + 12) i1.toNatClampNeg) 6 ∧ Q (.inl (some (.int (mx_i h (a + 4) (mx_i h (a + 12) i1.toNatClampNeg).toNatClampNeg)))) h)) ∧ (¬ (mx_i h (a + 11) i1.toNatClampNeg) = 0 → (((mx_i h (a + 11) i1.toNatClampNeg) = 1 → Q (.inl (some (.int (mx_i h (a + 12) i1.toNatClampNeg)))) h) ∧ (¬ (mx_i h (a + 11) i1.toNatClampNeg) = 1 → Q (.inl (some (.int (-1)))) h)))))) : mx_wp d 108 0 (mx_fr 108 [.ref a, .int i1]) [] h Q := by
  show mx_wp d 108 0 [some (.ref a), some (.int i1)] [] h Q
  obtain ⟨o1, H⟩ := H
  refine wp_steps (i' := 5) (ls' := [some (.ref a), some (.int i1)]) (st' := [.int (mx_i h (a + 11) i1.toNatClampNeg)]) (h' := h) (P := ((mxT a).1 = 9 ∧ mxG h) ∧ ((mxT (a + 7)).1 = 7 ∧ mxG h) ∧ (((mxT (a + 11)).1 = 50 ∧ mxG h) ∧ vp_in i1 (mxT (a + 11)).2) ∧ True) 5 rfl rfl ⟨⟨(congrArg Prod.fst (sV_0 hVa)), G⟩, ⟨(congrArg Prod.fst (sV_7 hVa)), G⟩, (cA (sV_11 hVa) G o1), trivial⟩ ?_
  refine wp_J (j := mx_sw 0 [6, 16] 22 (mx_i h (a + 11) i1.toNatClampNeg)) (st' := []) rfl rfl ?_
  refine wp_sw (fun (c2 : (mx_i h (a + 11) i1.toNatClampNeg) = 0) => ?_) (fun (c2 : ¬ (mx_i h (a + 11) i1.toNatClampNeg) = 0) => ?_)
  · have H := H.1 c2
    obtain ⟨o3, H⟩ := H
    refine wp_steps (i' := 15) (ls' := [some (.ref a), some (.int i1)]) (st' := [.int (mx_i h (a + 4) (mx_i h (a + 12) i1.toNatClampNeg).toNatClampNeg)]) (h' := h) (P := ((mxT a).1 = 9 ∧ mxG h) ∧ ((mxT (a + 1)).1 = 5 ∧ mxG h) ∧ ((mxT a).1 = 9 ∧ mxG h) ∧ ((mxT (a + 7)).1 = 7 ∧ mxG h) ∧ (((mxT (a + 12)).1 = 50 ∧ mxG h) ∧ vp_in i1 (mxT (a + 12)).2) ∧ (((mxT (a + 4)).1 = 50 ∧ mxG h) ∧ vp_in (mx_i h (a + 12) i1.toNatClampNeg) (mxT (a + 4)).2) ∧ True) 9 rfl rfl ⟨⟨(congrArg Prod.fst (sV_0 hVa)), G⟩, ⟨(congrArg Prod.fst (sV_1 hVa)), G⟩, ⟨(congrArg Prod.fst (sV_0 hVa)), G⟩, ⟨(congrArg Prod.fst (sV_7 hVa)), G⟩, (cA (sV_12 hVa) G o1), (cA (sV_4 hVa) G o3), trivial⟩ ?_
    exact wp_end (o := .inl (some (.int (mx_i h (a + 4) (mx_i h (a + 12) i1.toNatClampNeg).toNatClampNeg)))) (h' := h) (P := True) rfl rfl trivial H
  have H := H.2 c2
  refine wp_sw (fun (c4 : (mx_i h (a + 11) i1.toNatClampNeg) = 1) => ?_) (fun (c4 : ¬ (mx_i h (a + 11) i1.toNatClampNeg) = 1) => ?_)
  · have H := H.1 c4
    refine wp_steps (i' := 21) (ls' := [some (.ref a), some (.int i1)]) (st' := [.int (mx_i h (a + 12) i1.toNatClampNeg)]) (h' := h) (P := ((mxT a).1 = 9 ∧ mxG h) ∧ ((mxT (a + 7)).1 = 7 ∧ mxG h) ∧ (((mxT (a + 12)).1 = 50 ∧ mxG h) ∧ vp_in i1 (mxT (a + 12)).2) ∧ True) 5 rfl rfl ⟨⟨(congrArg Prod.fst (sV_0 hVa)), G⟩, ⟨(congrArg Prod.fst (sV_7 hVa)), G⟩, (cA (sV_12 hVa) G o1), trivial⟩ ?_
    exact wp_end (o := .inl (some (.int (mx_i h (a + 12) i1.toNatClampNeg)))) (h' := h) (P := True) rfl rfl trivial H
  have H := H.2 c4
  show mx_wp d 108 22 [some (.ref a), some (.int i1)] [] h Q
  refine wp_steps (i' := 23) (ls' := [some (.ref a), some (.int i1)]) (st' := [.int (-1)]) (h' := h) (P := True) 1 rfl rfl trivial ?_
  exact wp_end (o := .inl (some (.int (-1)))) (h' := h) (P := True) rfl rfl trivial H
def V_108 (h : mxH) (a : Nat) (i1 : Int32) : Int32 := (if (mx_i h (a + 11) i1.toNatClampNeg) = 0 then (mx_i h (a + 4) (mx_i h (a + 12) i1.toNatClampNeg).toNatClampNeg) else (if (mx_i h (a + 11) i1.toNatClampNeg) = 1 then (mx_i h (a + 12) i1.toNatClampNeg) else (-1)))
theorem sp_108 {d : Nat} {h : mxH} {Q : mxO → mxH → Prop} {a : Nat} {i1 : Int32} (G : mxG h) (hVa : (mxT a).1 = 9) (x0 : vp_in i1 10) (x1 : (((mx_i h (a + 11) i1.toNatClampNeg) = 0 → (vp_in (mx_i h (a + 12) i1.toNatClampNeg) 6 ∧ True)) ∧ (¬ (mx_i h (a + 11) i1.toNatClampNeg) = 0 → True))) (k : Q (.inl (some (.int (V_108 h a i1)))) h) : mx_wp d 108 0 (mx_fr 108 [.ref a, .int i1]) [] h Q := by
  unfold V_108 at k
  have hob : (vp_in i1 10 ∧ (((mx_i h (a + 11) i1.toNatClampNeg) = 0 → (vp_in (mx_i h (a + 12) i1.toNatClampNeg) 6 ∧ True)) ∧ (¬ (mx_i h (a + 11) i1.toNatClampNeg) = 0 → True))) := ⟨x0, x1⟩
  refine tr_108_0 G hVa ?_
  obtain ⟨q0, hob⟩ := hob
  refine ⟨q0, ?_⟩
  refine ⟨fun c9 => ?_, fun c9 => ?_⟩
  · try simp only [if_pos c9] at k
    have hob := hob.1 c9
    obtain ⟨q0, hob⟩ := hob
    refine ⟨q0, ?_⟩
    exact k
  · try simp only [if_neg c9] at k
    have hob := hob.2 c9
    refine ⟨fun c9 => ?_, fun c9 => ?_⟩
    · try simp only [if_pos c9] at k
      exact k
    · try simp only [if_neg c9] at k
      exact k
/-! 109: StoneBacks$Valley.mayBeLaid(I)Z -/
set_option maxRecDepth 8000 in
theorem tr_109_0 {d : Nat} {h : mxH} {Q : mxO → mxH → Prop} {a : Nat} {i1 : Int32} (G : mxG h) (hVa : (mxT a).1 = 9) (H : (vp_in i1 10 ∧ (((mx_i h (a + 11) i1.toNatClampNeg) = 0 → ((((mx_i h (a + 11) i1.toNatClampNeg) = 0 → (vp_in (mx_i h (a + 12) i1.toNatClampNeg) 6 ∧ True)) ∧ (¬ (mx_i h (a + 11) i1.toNatClampNeg) = 0 → True)) ∧ ((((V_105 h a (V_108 h a i1)) = 0 → (vp_in (mx_i h (a + 9) i1.toNatClampNeg) 6 ∧ True)) ∧ (¬ (V_105 h a (V_108 h a i1)) = 0 → True)) ∧ (∀ (v4 : Int32), v4 = ((if (V_105 h a (V_108 h a i1)) = 0 then (if (V_108 h a i1) = (mx_i h (a + 4) (mx_i h (a + 9) i1.toNatClampNeg).toNatClampNeg) then 1 else 0) else 1) : Int32) → Q (.inl (some (.int v4))) h)))) ∧ (¬ (mx_i h (a + 11) i1.toNatClampNeg) = 0 → Q (.inl (some (.int 0))) h)))) : mx_wp (d + 1) 109 0 (mx_fr 109 [.ref a, .int i1]) [] h Q := by
  show mx_wp (d + 1) 109 0 [some (.ref a), some (.int i1), none] [] h Q
  obtain ⟨o1, H⟩ := H
  refine wp_steps (i' := 5) (ls' := [some (.ref a), some (.int i1), none]) (st' := [.int (mx_i h (a + 11) i1.toNatClampNeg)]) (h' := h) (P := ((mxT a).1 = 9 ∧ mxG h) ∧ ((mxT (a + 7)).1 = 7 ∧ mxG h) ∧ (((mxT (a + 11)).1 = 50 ∧ mxG h) ∧ vp_in i1 (mxT (a + 11)).2) ∧ True) 5 rfl rfl ⟨⟨(congrArg Prod.fst (sV_0 hVa)), G⟩, ⟨(congrArg Prod.fst (sV_7 hVa)), G⟩, (cA (sV_11 hVa) G o1), trivial⟩ ?_
  refine wp_br (P := True) (c := (mx_i h (a + 11) i1.toNatClampNeg) = 0) (t := 8) (st' := []) rfl rfl trivial (fun c2 => ?_) (fun c2 => ?_)
  · skip
    have H := H.1 c2
    refine wp_steps (i' := 10) (ls' := [some (.ref a), some (.int i1), none]) (st' := [.int i1, .ref a]) (h' := h) (P := True) 2 rfl rfl trivial ?_
    obtain ⟨o3, H⟩ := H
    refine wp_call (b := false) (y' := 108) (as := [.ref a, .int i1]) (rest := []) (P := ((mxT a).1 = mxRc 108 ∧ mxG h)) rfl (by with_unfolding_all rfl) ⟨(congrArg Prod.fst (sV_0 hVa)), G⟩ (Nat.le_of_ble_eq_true rfl) (sp_108 G hVa o1 o3 ?_)
    show mx_wp (d + 1) 109 11 [some (.ref a), some (.int i1), none] [.int (V_108 h a i1)] h Q
    refine wp_steps (i' := 14) (ls' := [some (.ref a), some (.int i1), some (.int (V_108 h a i1))]) (st' := [.int (V_108 h a i1), .ref a]) (h' := h) (P := True) 3 rfl rfl trivial ?_
    refine wp_call (b := false) (y' := 105) (as := [.ref a, .int (V_108 h a i1)]) (rest := []) (P := ((mxT a).1 = mxRc 105 ∧ mxG h)) rfl (by with_unfolding_all rfl) ⟨(congrArg Prod.fst (sV_0 hVa)), G⟩ (Nat.le_of_ble_eq_true rfl) (sp_105 G hVa ?_)
    show mx_wp (d + 1) 109 15 [some (.ref a), some (.int i1), some (.int (V_108 h a i1))] [.int (V_105 h a (V_108 h a i1))] h Q
    have J : ∀ (v4 : Int32) (ev4 : v4 = ((if (V_105 h a (V_108 h a i1)) = 0 then (if (V_108 h a i1) = (mx_i h (a + 4) (mx_i h (a + 9) i1.toNatClampNeg).toNatClampNeg) then 1 else 0) else 1) : Int32)), mx_wp (d + 1) 109 30 [some (.ref a), some (.int i1), some (.int (V_108 h a i1))] [.int v4] h Q := by
      intro v4 ev4
      have H := H.2 v4 ev4
      exact wp_end (o := .inl (some (.int v4))) (h' := h) (P := (v4 = 0 ∨ v4 = 1)) rfl rfl (b01 ev4 (by repeat' (first | exact Or.inl rfl | exact Or.inr rfl | split))) H
    have H := H.1
    refine wp_br (P := True) (c := ¬ (V_105 h a (V_108 h a i1)) = 0) (t := 27) (st' := []) rfl rfl trivial (fun c5 => ?_) (fun c5 => ?_)
    · skip
      refine wp_steps (i' := 28) (ls' := [some (.ref a), some (.int i1), some (.int (V_108 h a i1))]) (st' := [.int 1]) (h' := h) (P := True) 1 rfl rfl trivial ?_
      refine wp_J (j := 30) (st' := [.int 1]) rfl rfl ?_
      exact J _ (by rw [if_neg c5])
    · have c5 := Decidable.of_not_not c5
      have H := H.1 c5
      obtain ⟨o6, H⟩ := H
      refine wp_steps (i' := 26) (ls' := [some (.ref a), some (.int i1), some (.int (V_108 h a i1))]) (st' := [.int (mx_i h (a + 4) (mx_i h (a + 9) i1.toNatClampNeg).toNatClampNeg), .int (V_108 h a i1)]) (h' := h) (P := ((mxT a).1 = 9 ∧ mxG h) ∧ ((mxT (a + 1)).1 = 5 ∧ mxG h) ∧ ((mxT a).1 = 9 ∧ mxG h) ∧ ((mxT (a + 7)).1 = 7 ∧ mxG h) ∧ (((mxT (a + 9)).1 = 50 ∧ mxG h) ∧ vp_in i1 (mxT (a + 9)).2) ∧ (((mxT (a + 4)).1 = 50 ∧ mxG h) ∧ vp_in (mx_i h (a + 9) i1.toNatClampNeg) (mxT (a + 4)).2) ∧ True) 10 rfl rfl ⟨⟨(congrArg Prod.fst (sV_0 hVa)), G⟩, ⟨(congrArg Prod.fst (sV_1 hVa)), G⟩, ⟨(congrArg Prod.fst (sV_0 hVa)), G⟩, ⟨(congrArg Prod.fst (sV_7 hVa)), G⟩, (cA (sV_9 hVa) G o1), (cA (sV_4 hVa) G o6), trivial⟩ ?_
      refine wp_br (P := True) (c := ¬ (V_108 h a i1) = (mx_i h (a + 4) (mx_i h (a + 9) i1.toNatClampNeg).toNatClampNeg)) (t := 29) (st' := []) rfl rfl trivial (fun c7 => ?_) (fun c7 => ?_)
      · skip
        refine wp_steps (i' := 30) (ls' := [some (.ref a), some (.int i1), some (.int (V_108 h a i1))]) (st' := [.int 0]) (h' := h) (P := True) 1 rfl rfl trivial ?_
        exact J _ (by rw [if_pos c5, if_neg c7])
      · have c7 := Decidable.of_not_not c7
        refine wp_steps (i' := 28) (ls' := [some (.ref a), some (.int i1), some (.int (V_108 h a i1))]) (st' := [.int 1]) (h' := h) (P := True) 1 rfl rfl trivial ?_
        refine wp_J (j := 30) (st' := [.int 1]) rfl rfl ?_
        exact J _ (by rw [if_pos c5, if_pos c7])
  · skip
    have H := H.2 c2
    refine wp_steps (i' := 7) (ls' := [some (.ref a), some (.int i1), none]) (st' := [.int 0]) (h' := h) (P := True) 1 rfl rfl trivial ?_
    exact wp_end (o := .inl (some (.int 0))) (h' := h) (P := ((0 : Int32) = 0 ∨ (0 : Int32) = 1)) rfl rfl (Or.inl rfl) H
def V_109 (h : mxH) (a : Nat) (i1 : Int32) : Int32 := (if (mx_i h (a + 11) i1.toNatClampNeg) = 0 then ((if (V_105 h a (V_108 h a i1)) = 0 then (if (V_108 h a i1) = (mx_i h (a + 4) (mx_i h (a + 9) i1.toNatClampNeg).toNatClampNeg) then 1 else 0) else 1) : Int32) else 0)
theorem sp_109 {d : Nat} {h : mxH} {Q : mxO → mxH → Prop} {a : Nat} {i1 : Int32} (G : mxG h) (hVa : (mxT a).1 = 9) (x0 : vp_in i1 10) (x1 : (((mx_i h (a + 11) i1.toNatClampNeg) = 0 → ((((mx_i h (a + 11) i1.toNatClampNeg) = 0 → (vp_in (mx_i h (a + 12) i1.toNatClampNeg) 6 ∧ True)) ∧ (¬ (mx_i h (a + 11) i1.toNatClampNeg) = 0 → True)) ∧ ((((V_105 h a (V_108 h a i1)) = 0 → (vp_in (mx_i h (a + 9) i1.toNatClampNeg) 6 ∧ True)) ∧ (¬ (V_105 h a (V_108 h a i1)) = 0 → True)) ∧ True))) ∧ (¬ (mx_i h (a + 11) i1.toNatClampNeg) = 0 → True))) (k : Q (.inl (some (.int (V_109 h a i1)))) h) : mx_wp (d + 1) 109 0 (mx_fr 109 [.ref a, .int i1]) [] h Q := by
  unfold V_109 at k
  have hob : (vp_in i1 10 ∧ (((mx_i h (a + 11) i1.toNatClampNeg) = 0 → ((((mx_i h (a + 11) i1.toNatClampNeg) = 0 → (vp_in (mx_i h (a + 12) i1.toNatClampNeg) 6 ∧ True)) ∧ (¬ (mx_i h (a + 11) i1.toNatClampNeg) = 0 → True)) ∧ ((((V_105 h a (V_108 h a i1)) = 0 → (vp_in (mx_i h (a + 9) i1.toNatClampNeg) 6 ∧ True)) ∧ (¬ (V_105 h a (V_108 h a i1)) = 0 → True)) ∧ True))) ∧ (¬ (mx_i h (a + 11) i1.toNatClampNeg) = 0 → True))) := ⟨x0, x1⟩
  refine tr_109_0 G hVa ?_
  obtain ⟨q0, hob⟩ := hob
  refine ⟨q0, ?_⟩
  refine ⟨fun c9 => ?_, fun c9 => ?_⟩
  · try simp only [if_pos c9] at k
    have hob := hob.1 c9
    obtain ⟨q0, hob⟩ := hob
    refine ⟨q0, ?_⟩
    obtain ⟨q0, hob⟩ := hob
    refine ⟨q0, ?_⟩
    intro v4 ev4
    subst ev4
    exact k
  · try simp only [if_neg c9] at k
    have hob := hob.2 c9
    exact k
/-! 115: StoneBacks$Valley.mayStep(III)Z -/
set_option maxRecDepth 8000 in
theorem tr_115_0 {d : Nat} {h : mxH} {Q : mxO → mxH → Prop} {a : Nat} {i1 : Int32} {i2 : Int32} {i3 : Int32} (G : mxG h) (hVa : (mxT a).1 = 9) (H : (∀ (v1 : Int32), v1 = ((if (mx_i h a 5) < i3 then (if (if i2 < i1 then i2 else i1) = 5 then 0 else 1) else 1) : Int32) → Q (.inl (some (.int v1))) h)) : mx_wp d 115 0 (mx_fr 115 [.ref a, .int i1, .int i2, .int i3]) [] h Q := by
  show mx_wp d 115 0 [some (.ref a), some (.int i1), some (.int i2), some (.int i3)] [] h Q
  refine wp_steps (i' := 3) (ls' := [some (.ref a), some (.int i1), some (.int i2), some (.int i3)]) (st' := [.int (mx_i h a 5), .int i3]) (h' := h) (P := ((mxT a).1 = 9 ∧ mxG h) ∧ True) 3 rfl rfl ⟨⟨(congrArg Prod.fst (sV_0 hVa)), G⟩, trivial⟩ ?_
  have J : ∀ (v1 : Int32) (ev1 : v1 = ((if (mx_i h a 5) < i3 then (if (if i2 < i1 then i2 else i1) = 5 then 0 else 1) else 1) : Int32)), mx_wp d 115 12 [some (.ref a), some (.int i1), some (.int i2), some (.int i3)] [.int v1] h Q := by
    intro v1 ev1
    have H := H v1 ev1
    exact wp_end (o := .inl (some (.int v1))) (h' := h) (P := (v1 = 0 ∨ v1 = 1)) rfl rfl (b01 ev1 (by repeat' (first | exact Or.inl rfl | exact Or.inr rfl | split))) H
  refine wp_br (P := True) (c := i3 ≤ (mx_i h a 5)) (t := 9) (st' := []) rfl rfl trivial (fun c2 => ?_) (fun c2 => ?_)
  · have c2 := Int32.not_lt.mpr c2
    refine wp_steps (i' := 10) (ls' := [some (.ref a), some (.int i1), some (.int i2), some (.int i3)]) (st' := [.int 1]) (h' := h) (P := True) 1 rfl rfl trivial ?_
    refine wp_J (j := 12) (st' := [.int 1]) rfl rfl ?_
    exact J _ (by rw [if_neg c2])
  · have c2 := Int32.not_le.mp c2
    refine wp_steps (i' := 8) (ls' := [some (.ref a), some (.int i1), some (.int i2), some (.int i3)]) (st' := [.int 5, .int (if i2 < i1 then i2 else i1)]) (h' := h) (P := ((([] : List Value).map mx_cat).sum ≤ 8) ∧ True) 4 rfl rfl ⟨(Nat.le_of_ble_eq_true rfl), trivial⟩ ?_
    refine wp_br (P := True) (c := (if i2 < i1 then i2 else i1) = 5) (t := 11) (st' := []) rfl rfl trivial (fun c3 => ?_) (fun c3 => ?_)
    · skip
      refine wp_steps (i' := 12) (ls' := [some (.ref a), some (.int i1), some (.int i2), some (.int i3)]) (st' := [.int 0]) (h' := h) (P := True) 1 rfl rfl trivial ?_
      exact J _ (by rw [if_pos c2, if_pos c3])
    · skip
      refine wp_steps (i' := 10) (ls' := [some (.ref a), some (.int i1), some (.int i2), some (.int i3)]) (st' := [.int 1]) (h' := h) (P := True) 1 rfl rfl trivial ?_
      refine wp_J (j := 12) (st' := [.int 1]) rfl rfl ?_
      exact J _ (by rw [if_pos c2, if_neg c3])
def V_115 (h : mxH) (a : Nat) (i1 : Int32) (i2 : Int32) (i3 : Int32) : Int32 := ((if (mx_i h a 5) < i3 then (if (if i2 < i1 then i2 else i1) = 5 then 0 else 1) else 1) : Int32)
theorem sp_115 {d : Nat} {h : mxH} {Q : mxO → mxH → Prop} {a : Nat} {i1 : Int32} {i2 : Int32} {i3 : Int32} (G : mxG h) (hVa : (mxT a).1 = 9) (k : Q (.inl (some (.int (V_115 h a i1 i2 i3)))) h) : mx_wp d 115 0 (mx_fr 115 [.ref a, .int i1, .int i2, .int i3]) [] h Q := by
  unfold V_115 at k
  refine tr_115_0 G hVa ?_
  intro v1 ev1
  subst ev1
  exact k
/-! 113: StoneBacks$Valley.drawn()I -/
set_option maxRecDepth 8000 in
theorem tr_113_0 {d : Nat} {h : mxH} {Q : mxO → mxH → Prop} {a : Nat} (G : mxG h) (hVa : (mxT a).1 = 9) (H : (∀ h1, h1 = mx_wi h a 7 ((1103515245 * (mx_i h a 7)) + 12345) → Q (.inl (some (.int (((mx_i h1 a 7).toUInt32 >>> ((16 : Int32).toUInt32 &&& Int32.toUInt32 31)).toInt32 &&& 32767)))) h1)) : mx_wp d 113 0 (mx_fr 113 [.ref a]) [] h Q := by
  show mx_wp d 113 0 [some (.ref a)] [] h Q
  refine wp_steps (i' := 8) (ls' := [some (.ref a)]) (st' := []) (h' := mx_wi h a 7 ((1103515245 * (mx_i h a 7)) + 12345)) (P := ((mxT a).1 = 9 ∧ mxG h) ∧ ((mxT a).1 = 9 ∧ mxG h) ∧ True) 8 rfl rfl ⟨⟨(congrArg Prod.fst (sV_0 hVa)), G⟩, ⟨(congrArg Prod.fst (sV_0 hVa)), G⟩, trivial⟩ ?_
  obtain ⟨h1, e2⟩ : ∃ z9, z9 = mx_wi h a 7 ((1103515245 * (mx_i h a 7)) + 12345) := ⟨_, rfl⟩
  rw [← e2]
  have H := H h1 e2
  have G3 : mxG h1 := e2 ▸ mxG_wi G
  refine wp_steps (i' := 14) (ls' := [some (.ref a)]) (st' := [.int (((mx_i h1 a 7).toUInt32 >>> ((16 : Int32).toUInt32 &&& Int32.toUInt32 31)).toInt32 &&& 32767)]) (h' := h1) (P := ((mxT a).1 = 9 ∧ mxG h1) ∧ True) 6 rfl rfl ⟨⟨(congrArg Prod.fst (sV_0 hVa)), G3⟩, trivial⟩ ?_
  exact wp_end (o := .inl (some (.int (((mx_i h1 a 7).toUInt32 >>> ((16 : Int32).toUInt32 &&& Int32.toUInt32 31)).toInt32 &&& 32767)))) (h' := h1) (P := True) rfl rfl trivial H
def V_113 (h : mxH) (a : Nat) : Int32 := (((mx_i (mx_wi h a 7 ((1103515245 * (mx_i h a 7)) + 12345)) a 7).toUInt32 >>> ((16 : Int32).toUInt32 &&& Int32.toUInt32 31)).toInt32 &&& 32767)
def W_113 (h : mxH) (a : Nat) : mxH := (mx_wi h a 7 ((1103515245 * (mx_i h a 7)) + 12345))
theorem KW_113 {h : mxH} {a : Nat} : mxK h (W_113 h a) := by
  unfold W_113
  repeat' (first | with_reducible exact mxK_rfl | with_reducible exact mxK_wi | with_reducible exact mxK_wrow | with_reducible refine mxK_ite ?_ ?_ | with_reducible refine mxK_tr ?_ mxK_wi | with_reducible refine mxK_tr ?_ mxK_wrow)
theorem sp_113 {d : Nat} {h : mxH} {Q : mxO → mxH → Prop} {a : Nat} (G : mxG h) (hVa : (mxT a).1 = 9) (k : Q (.inl (some (.int (V_113 h a)))) (W_113 h a)) : mx_wp d 113 0 (mx_fr 113 [.ref a]) [] h Q := by
  unfold V_113 W_113 at k
  refine tr_113_0 G hVa ?_
  intro h1 eh1
  subst eh1
  exact k
/-! 116: StoneBacks$Valley.hoursOfWay(II)I -/
def H_116_15 (d : Nat) (h : mxH) (a : Nat) (i2 : Int32) (i3 : Int32) (i4 : Int32) (i5 : Int32) (i6 : Int32) (Q : mxO → mxH → Prop) : Prop := ∀ (w1 : Option Value) (w7 : Option Value), mx_wp d 116 15 [some (.ref a), w1, some (.int i2), some (.int i3), some (.int i4), some (.int i5), some (.int i6), w7] [] h Q
set_option maxRecDepth 8000 in
theorem tr_116_0 {d : Nat} {h : mxH} {Q : mxO → mxH → Prop} {a : Nat} {i1 : Int32} {i2 : Int32} (G : mxG h) (hVa : (mxT a).1 = 9) (H : (cB (mx_i h (a + 7) 0) 10 ∧ (vp_in i1 6 ∧ H_116_15 (d + 1) h a i2 (V_77 h a i1) (mx_i h (a + 4) i1.toNatClampNeg) 0 0 Q))) : mx_wp (d + 1) 116 0 (mx_fr 116 [.ref a, .int i1, .int i2]) [] h Q := by
  show mx_wp (d + 1) 116 0 [some (.ref a), some (.int i1), some (.int i2), none, none, none, none, none] [] h Q
  refine wp_steps (i' := 3) (ls' := [some (.ref a), some (.int i1), some (.int i2), none, none, none, none, none]) (st' := [.int i1, .ref (a + 7)]) (h' := h) (P := ((mxT a).1 = 9 ∧ mxG h) ∧ True) 3 rfl rfl ⟨⟨(congrArg Prod.fst (sV_0 hVa)), G⟩, trivial⟩ ?_
  obtain ⟨o1, H⟩ := H
  refine wp_call (b := false) (y' := 77) (as := [.ref (a + 7), .int i1]) (rest := []) (P := ((mxT (a + 7)).1 = mxRc 77 ∧ mxG h)) rfl (by with_unfolding_all rfl) ⟨(congrArg Prod.fst (sV_7 hVa)), G⟩ (Nat.le_of_ble_eq_true rfl) (sp_77 G hVa o1 ?_)
  show mx_wp (d + 1) 116 4 [some (.ref a), some (.int i1), some (.int i2), none, none, none, none, none] [.int (V_77 h a i1)] h Q
  obtain ⟨o2, H⟩ := H
  refine wp_steps (i' := 15) (ls' := [some (.ref a), some (.int i1), some (.int i2), some (.int (V_77 h a i1)), some (.int (mx_i h (a + 4) i1.toNatClampNeg)), some (.int 0), some (.int 0), none]) (st' := []) (h' := h) (P := ((mxT a).1 = 9 ∧ mxG h) ∧ ((mxT (a + 1)).1 = 5 ∧ mxG h) ∧ (((mxT (a + 4)).1 = 50 ∧ mxG h) ∧ vp_in i1 (mxT (a + 4)).2) ∧ True) 11 rfl rfl ⟨⟨(congrArg Prod.fst (sV_0 hVa)), G⟩, ⟨(congrArg Prod.fst (sV_1 hVa)), G⟩, (cA (sV_4 hVa) G o2), trivial⟩ ?_
  exact H _ _
set_option maxRecDepth 8000 in
theorem tr_116_15 {d : Nat} {h : mxH} {Q : mxO → mxH → Prop} {a : Nat} {i2 : Int32} {i3 : Int32} {i4 : Int32} {i5 : Int32} {i6 : Int32} (G : mxG h) (hVa : (mxT a).1 = 9) (H : ((i6 < 12 → ((i4 = i2 → Q (.inl (some (.int i5))) h) ∧ (¬ i4 = i2 → (∀ (v3 : Int32), v3 = ((if i4 < i2 then (i4 + 1) else (i4 - 1)) : Int32) → (((V_115 h a i4 v3 i3) = 0 → Q (.inl (some (.int (-1)))) h) ∧ (¬ (V_115 h a i4 v3 i3) = 0 → (vp_in v3 12 ∧ H_116_15 (d + 1) h a i2 i3 v3 (i5 + (1 + ((i3 / 10) * (mx_i h (a + 15) v3.toNatClampNeg)))) (i6 + 1) Q))))))) ∧ (¬ i6 < 12 → Q (.inl (some (.int i5))) h))) : H_116_15 (d + 1) h a i2 i3 i4 i5 i6 Q := by
  intro w1 w7
  show mx_wp (d + 1) 116 15 [some (.ref a), w1, some (.int i2), some (.int i3), some (.int i4), some (.int i5), some (.int i6), w7] [] h Q
  refine wp_steps (i' := 17) (ls' := [some (.ref a), w1, some (.int i2), some (.int i3), some (.int i4), some (.int i5), some (.int i6), w7]) (st' := [.int 12, .int i6]) (h' := h) (P := True) 2 rfl rfl trivial ?_
  refine wp_br (P := True) (c := 12 ≤ i6) (t := 57) (st' := []) rfl rfl trivial (fun c1 => ?_) (fun c1 => ?_)
  · have c1 := Int32.not_lt.mpr c1
    have H := H.2 c1
    refine wp_steps (i' := 58) (ls' := [some (.ref a), w1, some (.int i2), some (.int i3), some (.int i4), some (.int i5), some (.int i6), w7]) (st' := [.int i5]) (h' := h) (P := True) 1 rfl rfl trivial ?_
    exact wp_end (o := .inl (some (.int i5))) (h' := h) (P := True) rfl rfl trivial H
  · have c1 := Int32.not_le.mp c1
    have H := H.1 c1
    refine wp_steps (i' := 20) (ls' := [some (.ref a), w1, some (.int i2), some (.int i3), some (.int i4), some (.int i5), some (.int i6), w7]) (st' := [.int i2, .int i4]) (h' := h) (P := True) 2 rfl rfl trivial ?_
    refine wp_br (P := True) (c := i4 = i2) (t := 57) (st' := []) rfl rfl trivial (fun c2 => ?_) (fun c2 => ?_)
    · skip
      have H := H.1 c2
      refine wp_steps (i' := 58) (ls' := [some (.ref a), w1, some (.int i2), some (.int i3), some (.int i4), some (.int i5), some (.int i6), w7]) (st' := [.int i5]) (h' := h) (P := True) 1 rfl rfl trivial ?_
      exact wp_end (o := .inl (some (.int i5))) (h' := h) (P := True) rfl rfl trivial H
    · skip
      have H := H.2 c2
      refine wp_steps (i' := 23) (ls' := [some (.ref a), w1, some (.int i2), some (.int i3), some (.int i4), some (.int i5), some (.int i6), w7]) (st' := [.int i2, .int i4]) (h' := h) (P := True) 2 rfl rfl trivial ?_
      have J : ∀ (v3 : Int32) (ev3 : v3 = ((if i4 < i2 then (i4 + 1) else (i4 - 1)) : Int32)), mx_wp (d + 1) 116 31 [some (.ref a), w1, some (.int i2), some (.int i3), some (.int i4), some (.int i5), some (.int i6), w7] [.int v3] h Q := by
        intro v3 ev3
        have H := H v3 ev3
        refine wp_steps (i' := 36) (ls' := [some (.ref a), w1, some (.int i2), some (.int i3), some (.int i4), some (.int i5), some (.int i6), some (.int v3)]) (st' := [.int i3, .int v3, .int i4, .ref a]) (h' := h) (P := True) 5 rfl rfl trivial ?_
        refine wp_call (b := false) (y' := 115) (as := [.ref a, .int i4, .int v3, .int i3]) (rest := []) (P := ((mxT a).1 = mxRc 115 ∧ mxG h)) rfl (by with_unfolding_all rfl) ⟨(congrArg Prod.fst (sV_0 hVa)), G⟩ (Nat.le_of_ble_eq_true rfl) (sp_115 G hVa ?_)
        show mx_wp (d + 1) 116 37 [some (.ref a), w1, some (.int i2), some (.int i3), some (.int i4), some (.int i5), some (.int i6), some (.int v3)] [.int (V_115 h a i4 v3 i3)] h Q
        refine wp_br (P := True) (c := ¬ (V_115 h a i4 v3 i3) = 0) (t := 40) (st' := []) rfl rfl trivial (fun c4 => ?_) (fun c4 => ?_)
        · skip
          have H := H.2 c4
          obtain ⟨o5, H⟩ := H
          refine wp_steps (i' := 56) (ls' := [some (.ref a), w1, some (.int i2), some (.int i3), some (.int v3), some (.int (i5 + (1 + ((i3 / 10) * (mx_i h (a + 15) v3.toNatClampNeg))))), some (.int (i6 + 1)), some (.int v3)]) (st' := []) (h' := h) (P := (¬ (10 : Int32) = 0) ∧ ((mxT a).1 = 9 ∧ mxG h) ∧ (((mxT (a + 15)).1 = 50 ∧ mxG h) ∧ vp_in v3 (mxT (a + 15)).2) ∧ True) 16 rfl rfl ⟨(by decide), ⟨(congrArg Prod.fst (sV_0 hVa)), G⟩, (cA (sV_15 hVa) G o5), trivial⟩ ?_
          refine wp_J (j := 15) (st' := []) rfl rfl ?_
          exact H _ _
        · have c4 := Decidable.of_not_not c4
          have H := H.1 c4
          refine wp_steps (i' := 39) (ls' := [some (.ref a), w1, some (.int i2), some (.int i3), some (.int i4), some (.int i5), some (.int i6), some (.int v3)]) (st' := [.int (-1)]) (h' := h) (P := True) 1 rfl rfl trivial ?_
          exact wp_end (o := .inl (some (.int (-1)))) (h' := h) (P := True) rfl rfl trivial H
      refine wp_br (P := True) (c := i2 ≤ i4) (t := 28) (st' := []) rfl rfl trivial (fun c6 => ?_) (fun c6 => ?_)
      · have c6 := Int32.not_lt.mpr c6
        refine wp_steps (i' := 31) (ls' := [some (.ref a), w1, some (.int i2), some (.int i3), some (.int i4), some (.int i5), some (.int i6), w7]) (st' := [.int (i4 - 1)]) (h' := h) (P := True) 3 rfl rfl trivial ?_
        exact J _ (by rw [if_neg c6])
      · have c6 := Int32.not_le.mp c6
        refine wp_steps (i' := 27) (ls' := [some (.ref a), w1, some (.int i2), some (.int i3), some (.int i4), some (.int i5), some (.int i6), w7]) (st' := [.int (i4 + 1)]) (h' := h) (P := True) 3 rfl rfl trivial ?_
        refine wp_J (j := 31) (st' := [.int (i4 + 1)]) rfl rfl ?_
        exact J _ (by rw [if_pos c6])
/-! 120: StoneBacks$Valley.pairsOfLikeLoad()I -/
def H_120_4 (d : Nat) (h : mxH) (a : Nat) (i1 : Int32) (i2 : Int32) (Q : mxO → mxH → Prop) : Prop := ∀ (w3 : Option Value), mx_wp d 120 4 [some (.ref a), some (.int i1), some (.int i2), w3] [] h Q
def H_120_13 (d : Nat) (h : mxH) (a : Nat) (i1 : Int32) (i2 : Int32) (i3 : Int32) (Q : mxO → mxH → Prop) : Prop := mx_wp d 120 13 [some (.ref a), some (.int i1), some (.int i2), some (.int i3)] [] h Q
set_option maxRecDepth 8000 in
theorem tr_120_0 {d : Nat} {h : mxH} {Q : mxO → mxH → Prop} {a : Nat} (G : mxG h) (hVa : (mxT a).1 = 9) (H : H_120_4 (d + 1) h a 0 0 Q) : mx_wp (d + 1) 120 0 (mx_fr 120 [.ref a]) [] h Q := by
  show mx_wp (d + 1) 120 0 [some (.ref a), none, none, none] [] h Q
  refine wp_steps (i' := 4) (ls' := [some (.ref a), some (.int 0), some (.int 0), none]) (st' := []) (h' := h) (P := True) 4 rfl rfl trivial ?_
  exact H _
set_option maxRecDepth 8000 in
theorem tr_120_4 {d : Nat} {h : mxH} {Q : mxO → mxH → Prop} {a : Nat} {i1 : Int32} {i2 : Int32} (G : mxG h) (hVa : (mxT a).1 = 9) (H : ((i2 < (mx_i h (a + 1) 0) → H_120_13 (d + 1) h a i1 i2 (i2 + 1) Q) ∧ (¬ i2 < (mx_i h (a + 1) 0) → Q (.inl (some (.int i1))) h))) : H_120_4 (d + 1) h a i1 i2 Q := by
  intro w3
  show mx_wp (d + 1) 120 4 [some (.ref a), some (.int i1), some (.int i2), w3] [] h Q
  refine wp_steps (i' := 8) (ls' := [some (.ref a), some (.int i1), some (.int i2), w3]) (st' := [.int (mx_i h (a + 1) 0), .int i2]) (h' := h) (P := ((mxT a).1 = 9 ∧ mxG h) ∧ ((mxT (a + 1)).1 = 5 ∧ mxG h) ∧ True) 4 rfl rfl ⟨⟨(congrArg Prod.fst (sV_0 hVa)), G⟩, ⟨(congrArg Prod.fst (sV_1 hVa)), G⟩, trivial⟩ ?_
  refine wp_br (P := True) (c := (mx_i h (a + 1) 0) ≤ i2) (t := 32) (st' := []) rfl rfl trivial (fun c1 => ?_) (fun c1 => ?_)
  · have c1 := Int32.not_lt.mpr c1
    have H := H.2 c1
    refine wp_steps (i' := 33) (ls' := [some (.ref a), some (.int i1), some (.int i2), w3]) (st' := [.int i1]) (h' := h) (P := True) 1 rfl rfl trivial ?_
    exact wp_end (o := .inl (some (.int i1))) (h' := h) (P := True) rfl rfl trivial H
  · have c1 := Int32.not_le.mp c1
    have H := H.1 c1
    refine wp_steps (i' := 13) (ls' := [some (.ref a), some (.int i1), some (.int i2), some (.int (i2 + 1))]) (st' := []) (h' := h) (P := True) 4 rfl rfl trivial ?_
    exact H 
set_option maxRecDepth 8000 in
theorem tr_120_13 {d : Nat} {h : mxH} {Q : mxO → mxH → Prop} {a : Nat} {i1 : Int32} {i2 : Int32} {i3 : Int32} (G : mxG h) (hVa : (mxT a).1 = 9) (H : ((i3 < (mx_i h (a + 1) 0) → (cB (mx_i h (a + 7) 0) 10 ∧ (∀ (v3 : Int32), v3 = ((if (V_77 h a i2) = (V_77 h a i3) then (i1 + 1) else i1) : Int32) → H_120_13 (d + 1) h a v3 i2 (i3 + 1) Q))) ∧ (¬ i3 < (mx_i h (a + 1) 0) → H_120_4 (d + 1) h a i1 (i2 + 1) Q))) : H_120_13 (d + 1) h a i1 i2 i3 Q := by
  show mx_wp (d + 1) 120 13 [some (.ref a), some (.int i1), some (.int i2), some (.int i3)] [] h Q
  refine wp_steps (i' := 17) (ls' := [some (.ref a), some (.int i1), some (.int i2), some (.int i3)]) (st' := [.int (mx_i h (a + 1) 0), .int i3]) (h' := h) (P := ((mxT a).1 = 9 ∧ mxG h) ∧ ((mxT (a + 1)).1 = 5 ∧ mxG h) ∧ True) 4 rfl rfl ⟨⟨(congrArg Prod.fst (sV_0 hVa)), G⟩, ⟨(congrArg Prod.fst (sV_1 hVa)), G⟩, trivial⟩ ?_
  refine wp_br (P := True) (c := (mx_i h (a + 1) 0) ≤ i3) (t := 30) (st' := []) rfl rfl trivial (fun c1 => ?_) (fun c1 => ?_)
  · have c1 := Int32.not_lt.mpr c1
    have H := H.2 c1
    refine wp_steps (i' := 31) (ls' := [some (.ref a), some (.int i1), some (.int (i2 + 1)), some (.int i3)]) (st' := []) (h' := h) (P := True) 1 rfl rfl trivial ?_
    refine wp_J (j := 4) (st' := []) rfl rfl ?_
    exact H _
  · have c1 := Int32.not_le.mp c1
    have H := H.1 c1
    refine wp_steps (i' := 21) (ls' := [some (.ref a), some (.int i1), some (.int i2), some (.int i3)]) (st' := [.int i2, .ref (a + 7)]) (h' := h) (P := ((mxT a).1 = 9 ∧ mxG h) ∧ True) 3 rfl rfl ⟨⟨(congrArg Prod.fst (sV_0 hVa)), G⟩, trivial⟩ ?_
    obtain ⟨o2, H⟩ := H
    refine wp_call (b := false) (y' := 77) (as := [.ref (a + 7), .int i2]) (rest := []) (P := ((mxT (a + 7)).1 = mxRc 77 ∧ mxG h)) rfl (by with_unfolding_all rfl) ⟨(congrArg Prod.fst (sV_7 hVa)), G⟩ (Nat.le_of_ble_eq_true rfl) (sp_77 G hVa o2 ?_)
    show mx_wp (d + 1) 120 22 [some (.ref a), some (.int i1), some (.int i2), some (.int i3)] [.int (V_77 h a i2)] h Q
    refine wp_steps (i' := 25) (ls' := [some (.ref a), some (.int i1), some (.int i2), some (.int i3)]) (st' := [.int i3, .ref (a + 7), .int (V_77 h a i2)]) (h' := h) (P := ((mxT a).1 = 9 ∧ mxG h) ∧ True) 3 rfl rfl ⟨⟨(congrArg Prod.fst (sV_0 hVa)), G⟩, trivial⟩ ?_
    refine wp_call (b := false) (y' := 77) (as := [.ref (a + 7), .int i3]) (rest := [.int (V_77 h a i2)]) (P := ((mxT (a + 7)).1 = mxRc 77 ∧ mxG h)) rfl (by with_unfolding_all rfl) ⟨(congrArg Prod.fst (sV_7 hVa)), G⟩ (Nat.le_of_ble_eq_true rfl) (sp_77 G hVa o2 ?_)
    show mx_wp (d + 1) 120 26 [some (.ref a), some (.int i1), some (.int i2), some (.int i3)] [.int (V_77 h a i3), .int (V_77 h a i2)] h Q
    have J : ∀ (v3 : Int32) (ev3 : v3 = ((if (V_77 h a i2) = (V_77 h a i3) then (i1 + 1) else i1) : Int32)), mx_wp (d + 1) 120 28 [some (.ref a), some (.int v3), some (.int i2), some (.int i3)] [] h Q := by
      intro v3 ev3
      have H := H v3 ev3
      refine wp_steps (i' := 29) (ls' := [some (.ref a), some (.int v3), some (.int i2), some (.int (i3 + 1))]) (st' := []) (h' := h) (P := True) 1 rfl rfl trivial ?_
      refine wp_J (j := 13) (st' := []) rfl rfl ?_
      exact H 
    refine wp_br (P := True) (c := ¬ (V_77 h a i2) = (V_77 h a i3)) (t := 28) (st' := []) rfl rfl trivial (fun c4 => ?_) (fun c4 => ?_)
    · skip
      exact J _ (by rw [if_neg c4])
    · have c4 := Decidable.of_not_not c4
      refine wp_steps (i' := 28) (ls' := [some (.ref a), some (.int (i1 + 1)), some (.int i2), some (.int i3)]) (st' := []) (h' := h) (P := True) 1 rfl rfl trivial ?_
      exact J _ (by rw [if_pos c4])
def F_120_13 (h : mxH) (a : Nat) (i2 : Int32) (z : Nat) (s : Int32) : Int32 := ((if (V_77 h a i2) = (V_77 h a (nI z)) then (s + 1) else s) : Int32)
theorem lp_120_13 {d : Nat} {h : mxH} {Q : mxO → mxH → Prop} {a : Nat} {i2 : Int32} {s0 : Int32} {n : Nat} (z0 : Nat) (G : mxG h) (hVa : (mxT a).1 = 9) (hB : (mx_i h (a + 1) 0) = nI n) (hn : n < 2147483648) (hz : z0 ≤ n) (ob : ∀ z, z0 ≤ z → z < n → (cB (mx_i h (a + 7) 0) 10 ∧ True)) (k : H_120_4 (d + 1) h a (fz (F_120_13 h a i2) z0 n s0) (i2 + 1) Q) : H_120_13 (d + 1) h a s0 i2 (nI z0) Q := by
  have L : ∀ (j z : Nat), z0 ≤ z → z + j = n → H_120_13 (d + 1) h a (fz (F_120_13 h a i2) z0 z s0) i2 (nI z) Q := by
    intro j
    induction j with
    | zero =>
      intro z hz0 hzn
      have hzn : z = n := by omega
      subst hzn
      refine tr_120_13 G hVa ⟨fun c9 => absurd (hB ▸ c9) Int32.lt_irrefl, fun c9 => k⟩
    | succ j ih =>
      intro z hz0 hzn
      have hih := ih (z + 1) (by omega) (by omega)
      rw [nI_succ, fz_s hz0] at hih
      have hob := ob z hz0 (by omega)
      refine tr_120_13 G hVa ⟨fun c9 => ?_, fun c9 => absurd (hB.symm ▸ nI_lt (by omega) hn) c9⟩
      obtain ⟨q0, hob⟩ := hob
      refine ⟨q0, ?_⟩
      intro v3 ev3
      subst ev3
      exact hih
  have L0 := L (n - z0) z0 (Nat.le_refl _) (by omega)
  simp only [fz_0] at L0
  exact L0
/-! 121: StoneBacks$Valley.mostLoaded()I -/
def H_121_6 (d : Nat) (h : mxH) (a : Nat) (i1 : Int32) (i2 : Int32) (i3 : Int32) (Q : mxO → mxH → Prop) : Prop := ∀ (w4 : Option Value), mx_wp d 121 6 [some (.ref a), some (.int i1), some (.int i2), some (.int i3), w4] [] h Q
set_option maxRecDepth 8000 in
theorem tr_121_0 {d : Nat} {h : mxH} {Q : mxO → mxH → Prop} {a : Nat} (G : mxG h) (hVa : (mxT a).1 = 9) (H : H_121_6 (d + 1) h a (-1) (-1) 0 Q) : mx_wp (d + 1) 121 0 (mx_fr 121 [.ref a]) [] h Q := by
  show mx_wp (d + 1) 121 0 [some (.ref a), none, none, none, none] [] h Q
  refine wp_steps (i' := 6) (ls' := [some (.ref a), some (.int (-1)), some (.int (-1)), some (.int 0), none]) (st' := []) (h' := h) (P := True) 6 rfl rfl trivial ?_
  exact H _
set_option maxRecDepth 8000 in
theorem tr_121_6 {d : Nat} {h : mxH} {Q : mxO → mxH → Prop} {a : Nat} {i1 : Int32} {i2 : Int32} {i3 : Int32} (G : mxG h) (hVa : (mxT a).1 = 9) (H : ((i3 < (mx_i h (a + 1) 0) → (cB (mx_i h (a + 7) 0) 10 ∧ (∀ (v3 : Int32), v3 = ((if i2 < (V_77 h a i3) then i3 else i1) : Int32) → (∀ (v4 : Int32), v4 = ((if i2 < (V_77 h a i3) then (V_77 h a i3) else i2) : Int32) → H_121_6 (d + 1) h a v3 v4 (i3 + 1) Q)))) ∧ (¬ i3 < (mx_i h (a + 1) 0) → Q (.inl (some (.int i1))) h))) : H_121_6 (d + 1) h a i1 i2 i3 Q := by
  intro w4
  show mx_wp (d + 1) 121 6 [some (.ref a), some (.int i1), some (.int i2), some (.int i3), w4] [] h Q
  refine wp_steps (i' := 10) (ls' := [some (.ref a), some (.int i1), some (.int i2), some (.int i3), w4]) (st' := [.int (mx_i h (a + 1) 0), .int i3]) (h' := h) (P := ((mxT a).1 = 9 ∧ mxG h) ∧ ((mxT (a + 1)).1 = 5 ∧ mxG h) ∧ True) 4 rfl rfl ⟨⟨(congrArg Prod.fst (sV_0 hVa)), G⟩, ⟨(congrArg Prod.fst (sV_1 hVa)), G⟩, trivial⟩ ?_
  refine wp_br (P := True) (c := (mx_i h (a + 1) 0) ≤ i3) (t := 25) (st' := []) rfl rfl trivial (fun c1 => ?_) (fun c1 => ?_)
  · have c1 := Int32.not_lt.mpr c1
    have H := H.2 c1
    refine wp_steps (i' := 26) (ls' := [some (.ref a), some (.int i1), some (.int i2), some (.int i3), w4]) (st' := [.int i1]) (h' := h) (P := True) 1 rfl rfl trivial ?_
    exact wp_end (o := .inl (some (.int i1))) (h' := h) (P := True) rfl rfl trivial H
  · have c1 := Int32.not_le.mp c1
    have H := H.1 c1
    refine wp_steps (i' := 14) (ls' := [some (.ref a), some (.int i1), some (.int i2), some (.int i3), w4]) (st' := [.int i3, .ref (a + 7)]) (h' := h) (P := ((mxT a).1 = 9 ∧ mxG h) ∧ True) 3 rfl rfl ⟨⟨(congrArg Prod.fst (sV_0 hVa)), G⟩, trivial⟩ ?_
    obtain ⟨o2, H⟩ := H
    refine wp_call (b := false) (y' := 77) (as := [.ref (a + 7), .int i3]) (rest := []) (P := ((mxT (a + 7)).1 = mxRc 77 ∧ mxG h)) rfl (by with_unfolding_all rfl) ⟨(congrArg Prod.fst (sV_7 hVa)), G⟩ (Nat.le_of_ble_eq_true rfl) (sp_77 G hVa o2 ?_)
    show mx_wp (d + 1) 121 15 [some (.ref a), some (.int i1), some (.int i2), some (.int i3), w4] [.int (V_77 h a i3)] h Q
    refine wp_steps (i' := 18) (ls' := [some (.ref a), some (.int i1), some (.int i2), some (.int i3), some (.int (V_77 h a i3))]) (st' := [.int i2, .int (V_77 h a i3)]) (h' := h) (P := True) 3 rfl rfl trivial ?_
    have J : ∀ (v3 : Int32) (v4 : Int32) (ev3 : v3 = ((if i2 < (V_77 h a i3) then i3 else i1) : Int32)) (ev4 : v4 = ((if i2 < (V_77 h a i3) then (V_77 h a i3) else i2) : Int32)), mx_wp (d + 1) 121 23 [some (.ref a), some (.int v3), some (.int v4), some (.int i3), some (.int (V_77 h a i3))] [] h Q := by
      intro v3 v4 ev3 ev4
      have H := H v3 ev3 v4 ev4
      refine wp_steps (i' := 24) (ls' := [some (.ref a), some (.int v3), some (.int v4), some (.int (i3 + 1)), some (.int (V_77 h a i3))]) (st' := []) (h' := h) (P := True) 1 rfl rfl trivial ?_
      refine wp_J (j := 6) (st' := []) rfl rfl ?_
      exact H _
    refine wp_br (P := True) (c := (V_77 h a i3) ≤ i2) (t := 23) (st' := []) rfl rfl trivial (fun c5 => ?_) (fun c5 => ?_)
    · have c5 := Int32.not_lt.mpr c5
      exact J _ _ (by rw [if_neg c5]) (by rw [if_neg c5])
    · have c5 := Int32.not_le.mp c5
      refine wp_steps (i' := 23) (ls' := [some (.ref a), some (.int i3), some (.int (V_77 h a i3)), some (.int i3), some (.int (V_77 h a i3))]) (st' := []) (h' := h) (P := True) 4 rfl rfl trivial ?_
      exact J _ _ (by rw [if_pos c5]) (by rw [if_pos c5])
def F_121_6 (h : mxH) (a : Nat) (z : Nat) (s : (Int32 × Int32)) : (Int32 × Int32) := (((if s.2 < (V_77 h a (nI z)) then (nI z) else s.1) : Int32), ((if s.2 < (V_77 h a (nI z)) then (V_77 h a (nI z)) else s.2) : Int32))
theorem lp_121_6 {d : Nat} {h : mxH} {Q : mxO → mxH → Prop} {a : Nat} {s0 : (Int32 × Int32)} {n : Nat} (z0 : Nat) (G : mxG h) (hVa : (mxT a).1 = 9) (hB : (mx_i h (a + 1) 0) = nI n) (hn : n < 2147483648) (hz : z0 ≤ n) (ob : ∀ z, z0 ≤ z → z < n → (cB (mx_i h (a + 7) 0) 10 ∧ True)) (k : Q (.inl (some (.int (fz (F_121_6 h a) z0 n s0).1))) h) : H_121_6 (d + 1) h a s0.1 s0.2 (nI z0) Q := by
  have L : ∀ (j z : Nat), z0 ≤ z → z + j = n → H_121_6 (d + 1) h a (fz (F_121_6 h a) z0 z s0).1 (fz (F_121_6 h a) z0 z s0).2 (nI z) Q := by
    intro j
    induction j with
    | zero =>
      intro z hz0 hzn
      have hzn : z = n := by omega
      subst hzn
      refine tr_121_6 G hVa ⟨fun c9 => absurd (hB ▸ c9) Int32.lt_irrefl, fun c9 => k⟩
    | succ j ih =>
      intro z hz0 hzn
      have hih := ih (z + 1) (by omega) (by omega)
      rw [nI_succ, fz_s hz0] at hih
      have hob := ob z hz0 (by omega)
      refine tr_121_6 G hVa ⟨fun c9 => ?_, fun c9 => absurd (hB.symm ▸ nI_lt (by omega) hn) c9⟩
      obtain ⟨q0, hob⟩ := hob
      refine ⟨q0, ?_⟩
      intro v3 ev3
      subst ev3
      intro v4 ev4
      subst ev4
      exact hih
  have L0 := L (n - z0) z0 (Nat.le_refl _) (by omega)
  simp only [fz_0] at L0
  exact L0
def V_121 (h : mxH) (a : Nat) : Int32 := (fo (F_121_6 h a) ((mx_i h (a + 1) 0)).toNatClampNeg ((-1), (-1))).1
theorem sp_121 {d : Nat} {h : mxH} {Q : mxO → mxH → Prop} {a : Nat} (G : mxG h) (hVa : (mxT a).1 = 9) (hcb : cB (mx_i h (a + 1) 0) 6) (x0 : cB (mx_i h (a + 7) 0) 10) (k : Q (.inl (some (.int (V_121 h a)))) h) : mx_wp (d + 1) 121 0 (mx_fr 121 [.ref a]) [] h Q := by
  unfold V_121 at k
  obtain ⟨n, hn, hB⟩ := hcb
  rw [hB, nI_clamp (by omega)] at k
  refine tr_121_0 G hVa ?_
  refine lp_121_6 (s0 := ((-1), (-1))) 0 G hVa hB (by omega) (Nat.zero_le _) (fun z _ hz => ⟨x0, trivial⟩) ?_
  simp only [fz_fo]
  exact k
/-! 133: StoneBacks.end(I)Z -/
set_option maxRecDepth 8000 in
theorem tr_133_0 {d : Nat} {h : mxH} {Q : mxO → mxH → Prop} {i1 : Int32} {vn vd vr vq : Nat} (G : mxG h) (S : mxS h vn vd vr vq) (H : ((i1 < 0 → Q (.inl (some (.int 0))) h) ∧ (¬ i1 < 0 → (((mx_i h 101 1) < i1 → Q (.inl (some (.int 0))) h) ∧ (¬ (mx_i h 101 1) < i1 → (∀ h3, h3 = mx_wi h 101 1 i1 → Q (.inl (some (.int 1))) h3)))))) : mx_wp d 133 0 (mx_fr 133 [.ref 100, .int i1]) [] h Q := by
  show mx_wp d 133 0 [some (.ref 100), some (.int i1)] [] h Q
  refine wp_steps (i' := 1) (ls' := [some (.ref 100), some (.int i1)]) (st' := [.int i1]) (h' := h) (P := True) 1 rfl rfl trivial ?_
  refine wp_br (P := True) (c := i1 < 0) (t := 7) (st' := []) rfl rfl trivial (fun c1 => ?_) (fun c1 => ?_)
  · skip
    have H := H.1 c1
    refine wp_steps (i' := 8) (ls' := [some (.ref 100), some (.int i1)]) (st' := [.int 0]) (h' := h) (P := True) 1 rfl rfl trivial ?_
    exact wp_end (o := .inl (some (.int 0))) (h' := h) (P := ((0 : Int32) = 0 ∨ (0 : Int32) = 1)) rfl rfl (Or.inl rfl) H
  · skip
    have H := H.2 c1
    refine wp_steps (i' := 6) (ls' := [some (.ref 100), some (.int i1)]) (st' := [.int (mx_i h 101 1), .int i1]) (h' := h) (P := ((mxT 100).1 = 10 ∧ mxG h) ∧ ((mxT 101).1 = 8 ∧ mxG h) ∧ True) 4 rfl rfl ⟨⟨(congrArg Prod.fst sT_100), G⟩, ⟨(congrArg Prod.fst sT_101), G⟩, trivial⟩ ?_
    refine wp_br (P := True) (c := i1 ≤ (mx_i h 101 1)) (t := 9) (st' := []) rfl rfl trivial (fun c2 => ?_) (fun c2 => ?_)
    · have c2 := Int32.not_lt.mpr c2
      have H := H.2 c2
      refine wp_steps (i' := 13) (ls' := [some (.ref 100), some (.int i1)]) (st' := []) (h' := mx_wi h 101 1 i1) (P := ((mxT 100).1 = 10 ∧ mxG h) ∧ ((mxT 101).1 = 8 ∧ mxG h) ∧ True) 4 rfl rfl ⟨⟨(congrArg Prod.fst sT_100), G⟩, ⟨(congrArg Prod.fst sT_101), G⟩, trivial⟩ ?_
      obtain ⟨h3, e4⟩ : ∃ z9, z9 = mx_wi h 101 1 i1 := ⟨_, rfl⟩
      rw [← e4]
      have H := H h3 e4
      have G5 : mxG h3 := e4 ▸ mxG_wi G
      have S6 := e4 ▸ mxS_wi S
      refine wp_steps (i' := 14) (ls' := [some (.ref 100), some (.int i1)]) (st' := [.int 1]) (h' := h3) (P := True) 1 rfl rfl trivial ?_
      exact wp_end (o := .inl (some (.int 1))) (h' := h3) (P := ((1 : Int32) = 0 ∨ (1 : Int32) = 1)) rfl rfl (Or.inr rfl) H
    · have c2 := Int32.not_le.mp c2
      have H := H.1 c2
      refine wp_steps (i' := 8) (ls' := [some (.ref 100), some (.int i1)]) (st' := [.int 0]) (h' := h) (P := True) 1 rfl rfl trivial ?_
      exact wp_end (o := .inl (some (.int 0))) (h' := h) (P := ((0 : Int32) = 0 ∨ (0 : Int32) = 1)) rfl rfl (Or.inl rfl) H
/-! 137: StoneBacks.closeText(Z)V -/
set_option maxRecDepth 8000 in
theorem tr_137_0 {d : Nat} {h : mxH} {Q : mxO → mxH → Prop} {i1 : Int32} {vn vd vr vq : Nat} (G : mxG h) (S : mxS h vn vd vr vq) (H : (((i1 = 0 → (vp_in (mx_i h 101 3) 401 ∧ True)) ∧ (¬ i1 = 0 → True)) ∧ (∀ (v1 : Int32), v1 = ((if i1 = 0 then (V_94 h) else (-1)) : Int32) → (∀ h2, h2 = mx_wi h 100 14 v1 → (∀ h6, h6 = mx_wi h2 101 1 0 → Q (.inl none) h6))))) : mx_wp (d + 1) 137 0 (mx_fr 137 [.ref 100, .int i1]) [] h Q := by
  show mx_wp (d + 1) 137 0 [some (.ref 100), some (.int i1)] [] h Q
  refine wp_steps (i' := 2) (ls' := [some (.ref 100), some (.int i1)]) (st' := [.int i1, .ref 100]) (h' := h) (P := True) 2 rfl rfl trivial ?_
  have J : ∀ (v1 : Int32) (ev1 : v1 = ((if i1 = 0 then (V_94 h) else (-1)) : Int32)), mx_wp (d + 1) 137 8 [some (.ref 100), some (.int i1)] [.int v1, .ref 100] h Q := by
    intro v1 ev1
    have H := H.2 v1 ev1
    refine wp_steps (i' := 9) (ls' := [some (.ref 100), some (.int i1)]) (st' := []) (h' := mx_wi h 100 14 v1) (P := ((mxT 100).1 = 10 ∧ mxG h) ∧ True) 1 rfl rfl ⟨⟨(congrArg Prod.fst sT_100), G⟩, trivial⟩ ?_
    obtain ⟨h2, e3⟩ : ∃ z9, z9 = mx_wi h 100 14 v1 := ⟨_, rfl⟩
    rw [← e3]
    have H := H h2 e3
    have G4 : mxG h2 := e3 ▸ mxG_wi G
    have S5 := e3 ▸ mxS_wi S
    refine wp_steps (i' := 13) (ls' := [some (.ref 100), some (.int i1)]) (st' := []) (h' := mx_wi h2 101 1 0) (P := ((mxT 100).1 = 10 ∧ mxG h2) ∧ ((mxT 101).1 = 8 ∧ mxG h2) ∧ True) 4 rfl rfl ⟨⟨(congrArg Prod.fst sT_100), G4⟩, ⟨(congrArg Prod.fst sT_101), G4⟩, trivial⟩ ?_
    obtain ⟨h6, e7⟩ : ∃ z9, z9 = mx_wi h2 101 1 0 := ⟨_, rfl⟩
    rw [← e7]
    have H := H h6 e7
    have G8 : mxG h6 := e7 ▸ mxG_wi G4
    have S9 := e7 ▸ mxS_wi S5
    exact wp_end (o := .inl none) (h' := h6) (P := True) rfl rfl trivial H
  have H := H.1
  refine wp_br (P := True) (c := i1 = 0) (t := 5) (st' := [.ref 100]) rfl rfl trivial (fun c10 => ?_) (fun c10 => ?_)
  · skip
    have H := H.1 c10
    refine wp_steps (i' := 7) (ls' := [some (.ref 100), some (.int i1)]) (st' := [.ref 101, .ref 100]) (h' := h) (P := ((mxT 100).1 = 10 ∧ mxG h) ∧ True) 2 rfl rfl ⟨⟨(congrArg Prod.fst sT_100), G⟩, trivial⟩ ?_
    obtain ⟨o11, H⟩ := H
    refine wp_call (b := false) (y' := 94) (as := [.ref 101]) (rest := [.ref 100]) (P := ((mxT 101).1 = mxRc 94 ∧ mxG h)) rfl (by with_unfolding_all rfl) ⟨(congrArg Prod.fst sT_101), G⟩ (Nat.le_of_ble_eq_true rfl) (sp_94 G o11 ?_)
    show mx_wp (d + 1) 137 8 [some (.ref 100), some (.int i1)] [.int (V_94 h), .ref 100] h Q
    exact J _ (by rw [if_pos c10])
  · skip
    refine wp_steps (i' := 4) (ls' := [some (.ref 100), some (.int i1)]) (st' := [.int (-1), .ref 100]) (h' := h) (P := True) 1 rfl rfl trivial ?_
    refine wp_J (j := 8) (st' := [.int (-1), .ref 100]) rfl rfl ?_
    exact J _ (by rw [if_neg c10])
/-! 183: StoneBacks.forgetActs()V -/
set_option maxRecDepth 8000 in
theorem tr_183_0 {d : Nat} {h : mxH} {Q : mxO → mxH → Prop} {vn vd vr vq : Nat} (G : mxG h) (S : mxS h vn vd vr vq) (H : (∀ h1, h1 = mx_wi h 100 13 0 → Q (.inl none) h1)) : mx_wp d 183 0 (mx_fr 183 [.ref 100]) [] h Q := by
  show mx_wp d 183 0 [some (.ref 100)] [] h Q
  refine wp_steps (i' := 3) (ls' := [some (.ref 100)]) (st' := []) (h' := mx_wi h 100 13 0) (P := ((mxT 100).1 = 10 ∧ mxG h) ∧ True) 3 rfl rfl ⟨⟨(congrArg Prod.fst sT_100), G⟩, trivial⟩ ?_
  obtain ⟨h1, e2⟩ : ∃ z9, z9 = mx_wi h 100 13 0 := ⟨_, rfl⟩
  rw [← e2]
  have H := H h1 e2
  have G3 : mxG h1 := e2 ▸ mxG_wi G
  have S4 := e2 ▸ mxS_wi S
  exact wp_end (o := .inl none) (h' := h1) (P := True) rfl rfl trivial H
/-! 136: StoneBacks.fault()I -/
set_option maxRecDepth 8000 in
theorem tr_136_0 {d : Nat} {h : mxH} {Q : mxO → mxH → Prop} {vn vd vr vq : Nat} (G : mxG h) (S : mxS h vn vd vr vq) (H : Q (.inl (some (.int (mx_i h 100 14)))) h) : mx_wp d 136 0 (mx_fr 136 [.ref 100]) [] h Q := by
  show mx_wp d 136 0 [some (.ref 100)] [] h Q
  refine wp_steps (i' := 2) (ls' := [some (.ref 100)]) (st' := [.int (mx_i h 100 14)]) (h' := h) (P := ((mxT 100).1 = 10 ∧ mxG h) ∧ True) 2 rfl rfl ⟨⟨(congrArg Prod.fst sT_100), G⟩, trivial⟩ ?_
  exact wp_end (o := .inl (some (.int (mx_i h 100 14)))) (h' := h) (P := True) rfl rfl trivial H
/-! 184: StoneBacks.needPerson(I)V -/
set_option maxRecDepth 8000 in
theorem tr_184_0 {d : Nat} {h : mxH} {Q : mxO → mxH → Prop} {i1 : Int32} {vn vd vr vq : Nat} (G : mxG h) (S : mxS h vn vd vr vq) (H : (((V_44 h vn i1) = 0 → Q (.inr 2) (mx_ex h)) ∧ (¬ (V_44 h vn i1) = 0 → Q (.inl none) h))) : mx_wp (d + 1) 184 0 (mx_fr 184 [.ref 100, .int i1]) [] h Q := by
  show mx_wp (d + 1) 184 0 [some (.ref 100), some (.int i1)] [] h Q
  refine wp_steps (i' := 2) (ls' := [some (.ref 100), some (.int i1)]) (st' := [.ref (mx_r h 100 4)]) (h' := h) (P := ((mxT 100).1 = 10 ∧ mxG h) ∧ True) 2 rfl rfl ⟨⟨(congrArg Prod.fst sT_100), G⟩, trivial⟩ ?_
  rw [mxS_4 S]
  refine wp_steps (i' := 4) (ls' := [some (.ref 100), some (.int i1)]) (st' := [.int i1, .ref (vn + 1)]) (h' := h) (P := ((mxT vn).1 = 9 ∧ mxG h) ∧ True) 2 rfl rfl ⟨⟨(congrArg Prod.fst (sV_0 (mxS_vn S))), G⟩, trivial⟩ ?_
  refine wp_call (b := false) (y' := 44) (as := [.ref (vn + 1), .int i1]) (rest := []) (P := ((mxT (vn + 1)).1 = mxRc 44 ∧ mxG h)) rfl (by with_unfolding_all rfl) ⟨(congrArg Prod.fst (sV_1 (mxS_vn S))), G⟩ (Nat.le_of_ble_eq_true rfl) (sp_44 G (mxS_vn S) ?_)
  show mx_wp (d + 1) 184 5 [some (.ref 100), some (.int i1)] [.int (V_44 h vn i1)] h Q
  refine wp_br (P := True) (c := ¬ (V_44 h vn i1) = 0) (t := 11) (st' := []) rfl rfl trivial (fun c1 => ?_) (fun c1 => ?_)
  · skip
    have H := H.2 c1
    exact wp_end (o := .inl none) (h' := h) (P := True) rfl rfl trivial H
  · have c1 := Decidable.of_not_not c1
    have H := H.1 c1
    exact wp_end (o := .inr 2) (h' := mx_ex h) (P := mx_c h = 292 ∧ (([] : List Value).map mx_cat).sum ≤ 8) rfl rfl ⟨G.1, Nat.le_of_ble_eq_true rfl⟩ H
/-! 185: StoneBacks.needStone(I)V -/
set_option maxRecDepth 8000 in
theorem tr_185_0 {d : Nat} {h : mxH} {Q : mxO → mxH → Prop} {i1 : Int32} {vn vd vr vq : Nat} (G : mxG h) (S : mxS h vn vd vr vq) (H : ((i1 < 0 → Q (.inr 2) (mx_ex h)) ∧ (¬ i1 < 0 → ((i1 < (mx_i h (vn + 7) 0) → Q (.inl none) h) ∧ (¬ i1 < (mx_i h (vn + 7) 0) → Q (.inr 2) (mx_ex h)))))) : mx_wp d 185 0 (mx_fr 185 [.ref 100, .int i1]) [] h Q := by
  show mx_wp d 185 0 [some (.ref 100), some (.int i1)] [] h Q
  refine wp_steps (i' := 1) (ls' := [some (.ref 100), some (.int i1)]) (st' := [.int i1]) (h' := h) (P := True) 1 rfl rfl trivial ?_
  refine wp_br (P := True) (c := i1 < 0) (t := 8) (st' := []) rfl rfl trivial (fun c1 => ?_) (fun c1 => ?_)
  · skip
    have H := H.1 c1
    exact wp_end (o := .inr 2) (h' := mx_ex h) (P := mx_c h = 292 ∧ (([] : List Value).map mx_cat).sum ≤ 8) rfl rfl ⟨G.1, Nat.le_of_ble_eq_true rfl⟩ H
  · skip
    have H := H.2 c1
    refine wp_steps (i' := 5) (ls' := [some (.ref 100), some (.int i1)]) (st' := [.ref (mx_r h 100 4), .int i1]) (h' := h) (P := ((mxT 100).1 = 10 ∧ mxG h) ∧ True) 3 rfl rfl ⟨⟨(congrArg Prod.fst sT_100), G⟩, trivial⟩ ?_
    rw [mxS_4 S]
    refine wp_steps (i' := 7) (ls' := [some (.ref 100), some (.int i1)]) (st' := [.int (mx_i h (vn + 7) 0), .int i1]) (h' := h) (P := ((mxT vn).1 = 9 ∧ mxG h) ∧ ((mxT (vn + 7)).1 = 7 ∧ mxG h) ∧ True) 2 rfl rfl ⟨⟨(congrArg Prod.fst (sV_0 (mxS_vn S))), G⟩, ⟨(congrArg Prod.fst (sV_7 (mxS_vn S))), G⟩, trivial⟩ ?_
    refine wp_br (P := True) (c := i1 < (mx_i h (vn + 7) 0)) (t := 13) (st' := []) rfl rfl trivial (fun c2 => ?_) (fun c2 => ?_)
    · skip
      have H := H.1 c2
      exact wp_end (o := .inl none) (h' := h) (P := True) rfl rfl trivial H
    · skip
      have H := H.2 c2
      exact wp_end (o := .inr 2) (h' := mx_ex h) (P := mx_c h = 292 ∧ (([] : List Value).map mx_cat).sum ≤ 8) rfl rfl ⟨G.1, Nat.le_of_ble_eq_true rfl⟩ H
/-! 186: StoneBacks.needPlace(I)V -/
set_option maxRecDepth 8000 in
theorem tr_186_0 {d : Nat} {h : mxH} {Q : mxO → mxH → Prop} {i1 : Int32} {vn vd vr vq : Nat} (G : mxG h) (S : mxS h vn vd vr vq) (H : ((i1 < 0 → Q (.inr 2) (mx_ex h)) ∧ (¬ i1 < 0 → ((i1 < 12 → Q (.inl none) h) ∧ (¬ i1 < 12 → Q (.inr 2) (mx_ex h)))))) : mx_wp d 186 0 (mx_fr 186 [.ref 100, .int i1]) [] h Q := by
  show mx_wp d 186 0 [some (.ref 100), some (.int i1)] [] h Q
  refine wp_steps (i' := 1) (ls' := [some (.ref 100), some (.int i1)]) (st' := [.int i1]) (h' := h) (P := True) 1 rfl rfl trivial ?_
  refine wp_br (P := True) (c := i1 < 0) (t := 5) (st' := []) rfl rfl trivial (fun c1 => ?_) (fun c1 => ?_)
  · skip
    have H := H.1 c1
    exact wp_end (o := .inr 2) (h' := mx_ex h) (P := mx_c h = 292 ∧ (([] : List Value).map mx_cat).sum ≤ 8) rfl rfl ⟨G.1, Nat.le_of_ble_eq_true rfl⟩ H
  · skip
    have H := H.2 c1
    refine wp_steps (i' := 4) (ls' := [some (.ref 100), some (.int i1)]) (st' := [.int 12, .int i1]) (h' := h) (P := True) 2 rfl rfl trivial ?_
    refine wp_br (P := True) (c := i1 < 12) (t := 10) (st' := []) rfl rfl trivial (fun c2 => ?_) (fun c2 => ?_)
    · skip
      have H := H.1 c2
      exact wp_end (o := .inl none) (h' := h) (P := True) rfl rfl trivial H
    · skip
      have H := H.2 c2
      exact wp_end (o := .inr 2) (h' := mx_ex h) (P := mx_c h = 292 ∧ (([] : List Value).map mx_cat).sum ≤ 8) rfl rfl ⟨G.1, Nat.le_of_ble_eq_true rfl⟩ H
/-! 142: StoneBacks.count(I)I -/
set_option maxRecDepth 8000 in
theorem tr_142_0 {d : Nat} {h : mxH} {Q : mxO → mxH → Prop} {i1 : Int32} {vn vd vr vq : Nat} (G : mxG h) (S : mxS h vn vd vr vq) (H : ((i1 = 0 → Q (.inl (some (.int (mx_i h (vn + 1) 0)))) h) ∧ (¬ i1 = 0 → ((i1 = 1 → Q (.inl (some (.int (mx_i h (vn + 7) 0)))) h) ∧ (¬ i1 = 1 → ((i1 = 2 → Q (.inl (some (.int (mx_i h vn 8)))) h) ∧ (¬ i1 = 2 → ((i1 = 3 → (∀ (v5 : Int32), v5 = ((if (mx_i h vr 0) = 0 then (-1) else (mx_i h vr 1)) : Int32) → Q (.inl (some (.int v5))) h)) ∧ (¬ i1 = 3 → ((i1 = 4 → Q (.inl (some (.int (mx_i h vn 6)))) h) ∧ (¬ i1 = 4 → ((i1 = 5 → Q (.inl (some (.int (mx_i h vn 5)))) h) ∧ (¬ i1 = 5 → ((i1 = 6 → (cB (mx_i h (vn + 1) 0) 6 ∧ Q (.inl (some (.int (V_52 h vn)))) h)) ∧ (¬ i1 = 6 → ((i1 = 7 → (cB (mx_i h (vn + 7) 0) 10 ∧ Q (.inl (some (.int (V_75 h vn (0 : Int32))))) h)) ∧ (¬ i1 = 7 → ((i1 = 8 → (cB (mx_i h (vn + 7) 0) 10 ∧ Q (.inl (some (.int (V_75 h vn (1 : Int32))))) h)) ∧ (¬ i1 = 8 → ((i1 = 9 → (cB (mx_i h (vn + 7) 0) 10 ∧ Q (.inl (some (.int (V_75 h vn (2 : Int32))))) h)) ∧ (¬ i1 = 9 → ((i1 = 10 → (cB (mx_i h (vn + 7) 0) 10 ∧ Q (.inl (some (.int (V_80 h vn)))) h)) ∧ (¬ i1 = 10 → ((i1 = 11 → Q (.inl (some (.int (mx_i h (vn + 1) 6)))) h) ∧ (¬ i1 = 11 → ((i1 = 12 → Q (.inl (some (.int (mx_i h (vn + 13) 0)))) h) ∧ (¬ i1 = 12 → ((i1 = 13 → Q (.inl (some (.int (mx_i h 100 13)))) h) ∧ (¬ i1 = 13 → Q (.inl (some (.int (-1)))) h))))))))))))))))))))))))))))) : mx_wp (d + 2) 142 0 (mx_fr 142 [.ref 100, .int i1]) [] h Q := by
  show mx_wp (d + 2) 142 0 [some (.ref 100), some (.int i1)] [] h Q
  refine wp_steps (i' := 1) (ls' := [some (.ref 100), some (.int i1)]) (st' := [.int i1]) (h' := h) (P := True) 1 rfl rfl trivial ?_
  refine wp_J (j := mx_sw 0 [2, 7, 12, 16, 26, 30, 34, 39, 45, 51, 57, 62, 67, 72] 75 i1) (st' := []) rfl rfl ?_
  refine wp_sw (fun (c1 : i1 = 0) => ?_) (fun (c1 : ¬ i1 = 0) => ?_)
  · have H := H.1 c1
    refine wp_steps (i' := 4) (ls' := [some (.ref 100), some (.int i1)]) (st' := [.ref (mx_r h 100 4)]) (h' := h) (P := ((mxT 100).1 = 10 ∧ mxG h) ∧ True) 2 rfl rfl ⟨⟨(congrArg Prod.fst sT_100), G⟩, trivial⟩ ?_
    rw [mxS_4 S]
    refine wp_steps (i' := 6) (ls' := [some (.ref 100), some (.int i1)]) (st' := [.int (mx_i h (vn + 1) 0)]) (h' := h) (P := ((mxT vn).1 = 9 ∧ mxG h) ∧ ((mxT (vn + 1)).1 = 5 ∧ mxG h) ∧ True) 2 rfl rfl ⟨⟨(congrArg Prod.fst (sV_0 (mxS_vn S))), G⟩, ⟨(congrArg Prod.fst (sV_1 (mxS_vn S))), G⟩, trivial⟩ ?_
    exact wp_end (o := .inl (some (.int (mx_i h (vn + 1) 0)))) (h' := h) (P := True) rfl rfl trivial H
  have H := H.2 c1
  refine wp_sw (fun (c2 : i1 = 1) => ?_) (fun (c2 : ¬ i1 = 1) => ?_)
  · have H := H.1 c2
    refine wp_steps (i' := 9) (ls' := [some (.ref 100), some (.int i1)]) (st' := [.ref (mx_r h 100 4)]) (h' := h) (P := ((mxT 100).1 = 10 ∧ mxG h) ∧ True) 2 rfl rfl ⟨⟨(congrArg Prod.fst sT_100), G⟩, trivial⟩ ?_
    rw [mxS_4 S]
    refine wp_steps (i' := 11) (ls' := [some (.ref 100), some (.int i1)]) (st' := [.int (mx_i h (vn + 7) 0)]) (h' := h) (P := ((mxT vn).1 = 9 ∧ mxG h) ∧ ((mxT (vn + 7)).1 = 7 ∧ mxG h) ∧ True) 2 rfl rfl ⟨⟨(congrArg Prod.fst (sV_0 (mxS_vn S))), G⟩, ⟨(congrArg Prod.fst (sV_7 (mxS_vn S))), G⟩, trivial⟩ ?_
    exact wp_end (o := .inl (some (.int (mx_i h (vn + 7) 0)))) (h' := h) (P := True) rfl rfl trivial H
  have H := H.2 c2
  refine wp_sw (fun (c3 : i1 = 2) => ?_) (fun (c3 : ¬ i1 = 2) => ?_)
  · have H := H.1 c3
    refine wp_steps (i' := 14) (ls' := [some (.ref 100), some (.int i1)]) (st' := [.ref (mx_r h 100 4)]) (h' := h) (P := ((mxT 100).1 = 10 ∧ mxG h) ∧ True) 2 rfl rfl ⟨⟨(congrArg Prod.fst sT_100), G⟩, trivial⟩ ?_
    rw [mxS_4 S]
    refine wp_steps (i' := 15) (ls' := [some (.ref 100), some (.int i1)]) (st' := [.int (mx_i h vn 8)]) (h' := h) (P := ((mxT vn).1 = 9 ∧ mxG h) ∧ True) 1 rfl rfl ⟨⟨(congrArg Prod.fst (sV_0 (mxS_vn S))), G⟩, trivial⟩ ?_
    exact wp_end (o := .inl (some (.int (mx_i h vn 8)))) (h' := h) (P := True) rfl rfl trivial H
  have H := H.2 c3
  refine wp_sw (fun (c4 : i1 = 3) => ?_) (fun (c4 : ¬ i1 = 3) => ?_)
  · have H := H.1 c4
    refine wp_steps (i' := 18) (ls' := [some (.ref 100), some (.int i1)]) (st' := [.ref (mx_r h 100 6)]) (h' := h) (P := ((mxT 100).1 = 10 ∧ mxG h) ∧ True) 2 rfl rfl ⟨⟨(congrArg Prod.fst sT_100), G⟩, trivial⟩ ?_
    rw [mxS_6 S]
    refine wp_steps (i' := 19) (ls' := [some (.ref 100), some (.int i1)]) (st' := [.int (mx_i h vr 0)]) (h' := h) (P := ((mxT vr).1 = 3 ∧ mxG h) ∧ True) 1 rfl rfl ⟨⟨(congrArg Prod.fst (sL_0 (mxS_vr S))), G⟩, trivial⟩ ?_
    have J : ∀ (v5 : Int32) (ev5 : v5 = ((if (mx_i h vr 0) = 0 then (-1) else (mx_i h vr 1)) : Int32)), mx_wp (d + 2) 142 25 [some (.ref 100), some (.int i1)] [.int v5] h Q := by
      intro v5 ev5
      have H := H v5 ev5
      exact wp_end (o := .inl (some (.int v5))) (h' := h) (P := True) rfl rfl trivial H
    refine wp_br (P := True) (c := (mx_i h vr 0) = 0) (t := 24) (st' := []) rfl rfl trivial (fun c6 => ?_) (fun c6 => ?_)
    · skip
      refine wp_steps (i' := 25) (ls' := [some (.ref 100), some (.int i1)]) (st' := [.int (-1)]) (h' := h) (P := True) 1 rfl rfl trivial ?_
      exact J _ (by rw [if_pos c6])
    · skip
      refine wp_steps (i' := 22) (ls' := [some (.ref 100), some (.int i1)]) (st' := [.ref (mx_r h 100 6)]) (h' := h) (P := ((mxT 100).1 = 10 ∧ mxG h) ∧ True) 2 rfl rfl ⟨⟨(congrArg Prod.fst sT_100), G⟩, trivial⟩ ?_
      rw [mxS_6 S]
      refine wp_steps (i' := 23) (ls' := [some (.ref 100), some (.int i1)]) (st' := [.int (mx_i h vr 1)]) (h' := h) (P := ((mxT vr).1 = 3 ∧ mxG h) ∧ True) 1 rfl rfl ⟨⟨(congrArg Prod.fst (sL_0 (mxS_vr S))), G⟩, trivial⟩ ?_
      refine wp_J (j := 25) (st' := [.int (mx_i h vr 1)]) rfl rfl ?_
      exact J _ (by rw [if_neg c6])
  have H := H.2 c4
  refine wp_sw (fun (c7 : i1 = 4) => ?_) (fun (c7 : ¬ i1 = 4) => ?_)
  · have H := H.1 c7
    refine wp_steps (i' := 28) (ls' := [some (.ref 100), some (.int i1)]) (st' := [.ref (mx_r h 100 4)]) (h' := h) (P := ((mxT 100).1 = 10 ∧ mxG h) ∧ True) 2 rfl rfl ⟨⟨(congrArg Prod.fst sT_100), G⟩, trivial⟩ ?_
    rw [mxS_4 S]
    refine wp_steps (i' := 29) (ls' := [some (.ref 100), some (.int i1)]) (st' := [.int (mx_i h vn 6)]) (h' := h) (P := ((mxT vn).1 = 9 ∧ mxG h) ∧ True) 1 rfl rfl ⟨⟨(congrArg Prod.fst (sV_0 (mxS_vn S))), G⟩, trivial⟩ ?_
    exact wp_end (o := .inl (some (.int (mx_i h vn 6)))) (h' := h) (P := True) rfl rfl trivial H
  have H := H.2 c7
  refine wp_sw (fun (c8 : i1 = 5) => ?_) (fun (c8 : ¬ i1 = 5) => ?_)
  · have H := H.1 c8
    refine wp_steps (i' := 32) (ls' := [some (.ref 100), some (.int i1)]) (st' := [.ref (mx_r h 100 4)]) (h' := h) (P := ((mxT 100).1 = 10 ∧ mxG h) ∧ True) 2 rfl rfl ⟨⟨(congrArg Prod.fst sT_100), G⟩, trivial⟩ ?_
    rw [mxS_4 S]
    refine wp_steps (i' := 33) (ls' := [some (.ref 100), some (.int i1)]) (st' := [.int (mx_i h vn 5)]) (h' := h) (P := ((mxT vn).1 = 9 ∧ mxG h) ∧ True) 1 rfl rfl ⟨⟨(congrArg Prod.fst (sV_0 (mxS_vn S))), G⟩, trivial⟩ ?_
    exact wp_end (o := .inl (some (.int (mx_i h vn 5)))) (h' := h) (P := True) rfl rfl trivial H
  have H := H.2 c8
  refine wp_sw (fun (c9 : i1 = 6) => ?_) (fun (c9 : ¬ i1 = 6) => ?_)
  · have H := H.1 c9
    refine wp_steps (i' := 36) (ls' := [some (.ref 100), some (.int i1)]) (st' := [.ref (mx_r h 100 4)]) (h' := h) (P := ((mxT 100).1 = 10 ∧ mxG h) ∧ True) 2 rfl rfl ⟨⟨(congrArg Prod.fst sT_100), G⟩, trivial⟩ ?_
    rw [mxS_4 S]
    refine wp_steps (i' := 37) (ls' := [some (.ref 100), some (.int i1)]) (st' := [.ref (vn + 1)]) (h' := h) (P := ((mxT vn).1 = 9 ∧ mxG h) ∧ True) 1 rfl rfl ⟨⟨(congrArg Prod.fst (sV_0 (mxS_vn S))), G⟩, trivial⟩ ?_
    obtain ⟨o10, H⟩ := H
    refine wp_call (b := false) (y' := 52) (as := [.ref (vn + 1)]) (rest := []) (P := ((mxT (vn + 1)).1 = mxRc 52 ∧ mxG h)) rfl (by with_unfolding_all rfl) ⟨(congrArg Prod.fst (sV_1 (mxS_vn S))), G⟩ (Nat.le_of_ble_eq_true rfl) (sp_52 G (mxS_vn S) o10 ?_)
    show mx_wp (d + 2) 142 38 [some (.ref 100), some (.int i1)] [.int (V_52 h vn)] h Q
    exact wp_end (o := .inl (some (.int (V_52 h vn)))) (h' := h) (P := True) rfl rfl trivial H
  have H := H.2 c9
  refine wp_sw (fun (c11 : i1 = 7) => ?_) (fun (c11 : ¬ i1 = 7) => ?_)
  · have H := H.1 c11
    refine wp_steps (i' := 41) (ls' := [some (.ref 100), some (.int i1)]) (st' := [.ref (mx_r h 100 4)]) (h' := h) (P := ((mxT 100).1 = 10 ∧ mxG h) ∧ True) 2 rfl rfl ⟨⟨(congrArg Prod.fst sT_100), G⟩, trivial⟩ ?_
    rw [mxS_4 S]
    refine wp_steps (i' := 43) (ls' := [some (.ref 100), some (.int i1)]) (st' := [.int 0, .ref (vn + 7)]) (h' := h) (P := ((mxT vn).1 = 9 ∧ mxG h) ∧ True) 2 rfl rfl ⟨⟨(congrArg Prod.fst (sV_0 (mxS_vn S))), G⟩, trivial⟩ ?_
    obtain ⟨o12, H⟩ := H
    refine wp_call (b := false) (y' := 75) (as := [.ref (vn + 7), .int 0]) (rest := []) (P := ((mxT (vn + 7)).1 = mxRc 75 ∧ mxG h)) rfl (by with_unfolding_all rfl) ⟨(congrArg Prod.fst (sV_7 (mxS_vn S))), G⟩ (Nat.le_of_ble_eq_true rfl) (sp_75 G (mxS_vn S) o12 ?_)
    show mx_wp (d + 2) 142 44 [some (.ref 100), some (.int i1)] [.int (V_75 h vn (0 : Int32))] h Q
    exact wp_end (o := .inl (some (.int (V_75 h vn (0 : Int32))))) (h' := h) (P := True) rfl rfl trivial H
  have H := H.2 c11
  refine wp_sw (fun (c13 : i1 = 8) => ?_) (fun (c13 : ¬ i1 = 8) => ?_)
  · have H := H.1 c13
    refine wp_steps (i' := 47) (ls' := [some (.ref 100), some (.int i1)]) (st' := [.ref (mx_r h 100 4)]) (h' := h) (P := ((mxT 100).1 = 10 ∧ mxG h) ∧ True) 2 rfl rfl ⟨⟨(congrArg Prod.fst sT_100), G⟩, trivial⟩ ?_
    rw [mxS_4 S]
    refine wp_steps (i' := 49) (ls' := [some (.ref 100), some (.int i1)]) (st' := [.int 1, .ref (vn + 7)]) (h' := h) (P := ((mxT vn).1 = 9 ∧ mxG h) ∧ True) 2 rfl rfl ⟨⟨(congrArg Prod.fst (sV_0 (mxS_vn S))), G⟩, trivial⟩ ?_
    obtain ⟨o14, H⟩ := H
    refine wp_call (b := false) (y' := 75) (as := [.ref (vn + 7), .int 1]) (rest := []) (P := ((mxT (vn + 7)).1 = mxRc 75 ∧ mxG h)) rfl (by with_unfolding_all rfl) ⟨(congrArg Prod.fst (sV_7 (mxS_vn S))), G⟩ (Nat.le_of_ble_eq_true rfl) (sp_75 G (mxS_vn S) o14 ?_)
    show mx_wp (d + 2) 142 50 [some (.ref 100), some (.int i1)] [.int (V_75 h vn (1 : Int32))] h Q
    exact wp_end (o := .inl (some (.int (V_75 h vn (1 : Int32))))) (h' := h) (P := True) rfl rfl trivial H
  have H := H.2 c13
  refine wp_sw (fun (c15 : i1 = 9) => ?_) (fun (c15 : ¬ i1 = 9) => ?_)
  · have H := H.1 c15
    refine wp_steps (i' := 53) (ls' := [some (.ref 100), some (.int i1)]) (st' := [.ref (mx_r h 100 4)]) (h' := h) (P := ((mxT 100).1 = 10 ∧ mxG h) ∧ True) 2 rfl rfl ⟨⟨(congrArg Prod.fst sT_100), G⟩, trivial⟩ ?_
    rw [mxS_4 S]
    refine wp_steps (i' := 55) (ls' := [some (.ref 100), some (.int i1)]) (st' := [.int 2, .ref (vn + 7)]) (h' := h) (P := ((mxT vn).1 = 9 ∧ mxG h) ∧ True) 2 rfl rfl ⟨⟨(congrArg Prod.fst (sV_0 (mxS_vn S))), G⟩, trivial⟩ ?_
    obtain ⟨o16, H⟩ := H
    refine wp_call (b := false) (y' := 75) (as := [.ref (vn + 7), .int 2]) (rest := []) (P := ((mxT (vn + 7)).1 = mxRc 75 ∧ mxG h)) rfl (by with_unfolding_all rfl) ⟨(congrArg Prod.fst (sV_7 (mxS_vn S))), G⟩ (Nat.le_of_ble_eq_true rfl) (sp_75 G (mxS_vn S) o16 ?_)
    show mx_wp (d + 2) 142 56 [some (.ref 100), some (.int i1)] [.int (V_75 h vn (2 : Int32))] h Q
    exact wp_end (o := .inl (some (.int (V_75 h vn (2 : Int32))))) (h' := h) (P := True) rfl rfl trivial H
  have H := H.2 c15
  refine wp_sw (fun (c17 : i1 = 10) => ?_) (fun (c17 : ¬ i1 = 10) => ?_)
  · have H := H.1 c17
    refine wp_steps (i' := 59) (ls' := [some (.ref 100), some (.int i1)]) (st' := [.ref (mx_r h 100 4)]) (h' := h) (P := ((mxT 100).1 = 10 ∧ mxG h) ∧ True) 2 rfl rfl ⟨⟨(congrArg Prod.fst sT_100), G⟩, trivial⟩ ?_
    rw [mxS_4 S]
    refine wp_steps (i' := 60) (ls' := [some (.ref 100), some (.int i1)]) (st' := [.ref (vn + 7)]) (h' := h) (P := ((mxT vn).1 = 9 ∧ mxG h) ∧ True) 1 rfl rfl ⟨⟨(congrArg Prod.fst (sV_0 (mxS_vn S))), G⟩, trivial⟩ ?_
    obtain ⟨o18, H⟩ := H
    refine wp_call (b := false) (y' := 80) (as := [.ref (vn + 7)]) (rest := []) (P := ((mxT (vn + 7)).1 = mxRc 80 ∧ mxG h)) rfl (by with_unfolding_all rfl) ⟨(congrArg Prod.fst (sV_7 (mxS_vn S))), G⟩ (Nat.le_of_ble_eq_true rfl) (sp_80 G (mxS_vn S) o18 ?_)
    show mx_wp (d + 2) 142 61 [some (.ref 100), some (.int i1)] [.int (V_80 h vn)] h Q
    exact wp_end (o := .inl (some (.int (V_80 h vn)))) (h' := h) (P := True) rfl rfl trivial H
  have H := H.2 c17
  refine wp_sw (fun (c19 : i1 = 11) => ?_) (fun (c19 : ¬ i1 = 11) => ?_)
  · have H := H.1 c19
    refine wp_steps (i' := 64) (ls' := [some (.ref 100), some (.int i1)]) (st' := [.ref (mx_r h 100 4)]) (h' := h) (P := ((mxT 100).1 = 10 ∧ mxG h) ∧ True) 2 rfl rfl ⟨⟨(congrArg Prod.fst sT_100), G⟩, trivial⟩ ?_
    rw [mxS_4 S]
    refine wp_steps (i' := 66) (ls' := [some (.ref 100), some (.int i1)]) (st' := [.int (mx_i h (vn + 1) 6)]) (h' := h) (P := ((mxT vn).1 = 9 ∧ mxG h) ∧ ((mxT (vn + 1)).1 = 5 ∧ mxG h) ∧ True) 2 rfl rfl ⟨⟨(congrArg Prod.fst (sV_0 (mxS_vn S))), G⟩, ⟨(congrArg Prod.fst (sV_1 (mxS_vn S))), G⟩, trivial⟩ ?_
    exact wp_end (o := .inl (some (.int (mx_i h (vn + 1) 6)))) (h' := h) (P := True) rfl rfl trivial H
  have H := H.2 c19
  refine wp_sw (fun (c20 : i1 = 12) => ?_) (fun (c20 : ¬ i1 = 12) => ?_)
  · have H := H.1 c20
    refine wp_steps (i' := 69) (ls' := [some (.ref 100), some (.int i1)]) (st' := [.ref (mx_r h 100 4)]) (h' := h) (P := ((mxT 100).1 = 10 ∧ mxG h) ∧ True) 2 rfl rfl ⟨⟨(congrArg Prod.fst sT_100), G⟩, trivial⟩ ?_
    rw [mxS_4 S]
    refine wp_steps (i' := 71) (ls' := [some (.ref 100), some (.int i1)]) (st' := [.int (mx_i h (vn + 13) 0)]) (h' := h) (P := ((mxT vn).1 = 9 ∧ mxG h) ∧ ((mxT (vn + 13)).1 = 1 ∧ mxG h) ∧ True) 2 rfl rfl ⟨⟨(congrArg Prod.fst (sV_0 (mxS_vn S))), G⟩, ⟨(congrArg Prod.fst (sV_13 (mxS_vn S))), G⟩, trivial⟩ ?_
    exact wp_end (o := .inl (some (.int (mx_i h (vn + 13) 0)))) (h' := h) (P := True) rfl rfl trivial H
  have H := H.2 c20
  refine wp_sw (fun (c21 : i1 = 13) => ?_) (fun (c21 : ¬ i1 = 13) => ?_)
  · have H := H.1 c21
    refine wp_steps (i' := 74) (ls' := [some (.ref 100), some (.int i1)]) (st' := [.int (mx_i h 100 13)]) (h' := h) (P := ((mxT 100).1 = 10 ∧ mxG h) ∧ True) 2 rfl rfl ⟨⟨(congrArg Prod.fst sT_100), G⟩, trivial⟩ ?_
    exact wp_end (o := .inl (some (.int (mx_i h 100 13)))) (h' := h) (P := True) rfl rfl trivial H
  have H := H.2 c21
  show mx_wp (d + 2) 142 75 [some (.ref 100), some (.int i1)] [] h Q
  refine wp_steps (i' := 76) (ls' := [some (.ref 100), some (.int i1)]) (st' := [.int (-1)]) (h' := h) (P := True) 1 rfl rfl trivial ?_
  exact wp_end (o := .inl (some (.int (-1)))) (h' := h) (P := True) rfl rfl trivial H
/-! 152: StoneBacks.seed(I)I -/
set_option maxRecDepth 8000 in
theorem tr_152_0 {d : Nat} {h : mxH} {Q : mxO → mxH → Prop} {i1 : Int32} {vn vd vr vq : Nat} (G : mxG h) (S : mxS h vn vd vr vq) (H : (∀ h1, h1 = mx_wi h vn 7 i1 → Q (.inl (some (.int (mx_i h vn 7)))) h1)) : mx_wp d 152 0 (mx_fr 152 [.ref 100, .int i1]) [] h Q := by
  show mx_wp d 152 0 [some (.ref 100), some (.int i1), none] [] h Q
  refine wp_steps (i' := 2) (ls' := [some (.ref 100), some (.int i1), none]) (st' := [.ref (mx_r h 100 4)]) (h' := h) (P := ((mxT 100).1 = 10 ∧ mxG h) ∧ True) 2 rfl rfl ⟨⟨(congrArg Prod.fst sT_100), G⟩, trivial⟩ ?_
  rw [mxS_4 S]
  refine wp_steps (i' := 6) (ls' := [some (.ref 100), some (.int i1), some (.int (mx_i h vn 7))]) (st' := [.ref (mx_r h 100 4)]) (h' := h) (P := ((mxT vn).1 = 9 ∧ mxG h) ∧ ((mxT 100).1 = 10 ∧ mxG h) ∧ True) 4 rfl rfl ⟨⟨(congrArg Prod.fst (sV_0 (mxS_vn S))), G⟩, ⟨(congrArg Prod.fst sT_100), G⟩, trivial⟩ ?_
  rw [mxS_4 S]
  refine wp_steps (i' := 8) (ls' := [some (.ref 100), some (.int i1), some (.int (mx_i h vn 7))]) (st' := []) (h' := mx_wi h vn 7 i1) (P := ((mxT vn).1 = 9 ∧ mxG h) ∧ True) 2 rfl rfl ⟨⟨(congrArg Prod.fst (sV_0 (mxS_vn S))), G⟩, trivial⟩ ?_
  obtain ⟨h1, e2⟩ : ∃ z9, z9 = mx_wi h vn 7 i1 := ⟨_, rfl⟩
  rw [← e2]
  have H := H h1 e2
  have G3 : mxG h1 := e2 ▸ mxG_wi G
  have S4 := e2 ▸ mxS_wi S
  refine wp_steps (i' := 9) (ls' := [some (.ref 100), some (.int i1), some (.int (mx_i h vn 7))]) (st' := [.int (mx_i h vn 7)]) (h' := h1) (P := True) 1 rfl rfl trivial ?_
  exact wp_end (o := .inl (some (.int (mx_i h vn 7)))) (h' := h1) (P := True) rfl rfl trivial H
/-! 160: StoneBacks.heap()I -/
set_option maxRecDepth 8000 in
theorem tr_160_0 {d : Nat} {h : mxH} {Q : mxO → mxH → Prop} {vn vd vr vq : Nat} (G : mxG h) (S : mxS h vn vd vr vq) (H : (cB (mx_i h (vn + 7) 0) 10 ∧ Q (.inl (some (.int (V_83 h vn)))) h)) : mx_wp (d + 2) 160 0 (mx_fr 160 [.ref 100]) [] h Q := by
  show mx_wp (d + 2) 160 0 [some (.ref 100)] [] h Q
  refine wp_steps (i' := 2) (ls' := [some (.ref 100)]) (st' := [.ref (mx_r h 100 4)]) (h' := h) (P := ((mxT 100).1 = 10 ∧ mxG h) ∧ True) 2 rfl rfl ⟨⟨(congrArg Prod.fst sT_100), G⟩, trivial⟩ ?_
  rw [mxS_4 S]
  refine wp_steps (i' := 3) (ls' := [some (.ref 100)]) (st' := [.ref (vn + 7)]) (h' := h) (P := ((mxT vn).1 = 9 ∧ mxG h) ∧ True) 1 rfl rfl ⟨⟨(congrArg Prod.fst (sV_0 (mxS_vn S))), G⟩, trivial⟩ ?_
  obtain ⟨o1, H⟩ := H
  refine wp_call (b := false) (y' := 83) (as := [.ref (vn + 7)]) (rest := []) (P := ((mxT (vn + 7)).1 = mxRc 83 ∧ mxG h)) rfl (by with_unfolding_all rfl) ⟨(congrArg Prod.fst (sV_7 (mxS_vn S))), G⟩ (Nat.le_of_ble_eq_true rfl) (sp_83 G (mxS_vn S) o1 ?_)
  show mx_wp (d + 2) 160 4 [some (.ref 100)] [.int (V_83 h vn)] h Q
  exact wp_end (o := .inl (some (.int (V_83 h vn)))) (h' := h) (P := True) rfl rfl trivial H
/-! 162: StoneBacks.heaviest()I -/
set_option maxRecDepth 8000 in
theorem tr_162_0 {d : Nat} {h : mxH} {Q : mxO → mxH → Prop} {vn vd vr vq : Nat} (G : mxG h) (S : mxS h vn vd vr vq) (H : (cB (mx_i h (vn + 1) 0) 6 ∧ cB (mx_i h (vn + 7) 0) 10 ∧ Q (.inl (some (.int (V_121 h vn)))) h)) : mx_wp (d + 2) 162 0 (mx_fr 162 [.ref 100]) [] h Q := by
  show mx_wp (d + 2) 162 0 [some (.ref 100)] [] h Q
  refine wp_steps (i' := 2) (ls' := [some (.ref 100)]) (st' := [.ref (mx_r h 100 4)]) (h' := h) (P := ((mxT 100).1 = 10 ∧ mxG h) ∧ True) 2 rfl rfl ⟨⟨(congrArg Prod.fst sT_100), G⟩, trivial⟩ ?_
  rw [mxS_4 S]
  obtain ⟨o1, o2, H⟩ := H
  refine wp_call (b := false) (y' := 121) (as := [.ref vn]) (rest := []) (P := ((mxT vn).1 = mxRc 121 ∧ mxG h)) rfl (by with_unfolding_all rfl) ⟨(congrArg Prod.fst (sV_0 (mxS_vn S))), G⟩ (Nat.le_of_ble_eq_true rfl) (sp_121 G (mxS_vn S) o1 o2 ?_)
  show mx_wp (d + 2) 162 3 [some (.ref 100)] [.int (V_121 h vn)] h Q
  exact wp_end (o := .inl (some (.int (V_121 h vn)))) (h' := h) (P := True) rfl rfl trivial H
/-! 187: StoneBacks.needAhead(I)V -/
set_option maxRecDepth 8000 in
theorem tr_187_0 {d : Nat} {h : mxH} {Q : mxO → mxH → Prop} {i1 : Int32} {vn vd vr vq : Nat} (G : mxG h) (S : mxS h vn vd vr vq) (H : ((i1 < 0 → Q (.inr 0) (mx_ex h)) ∧ (¬ i1 < 0 → ((200 < i1 → Q (.inr 0) (mx_ex h)) ∧ (¬ 200 < i1 → Q (.inl none) h))))) : mx_wp d 187 0 (mx_fr 187 [.ref 100, .int i1]) [] h Q := by
  show mx_wp d 187 0 [some (.ref 100), some (.int i1)] [] h Q
  refine wp_steps (i' := 1) (ls' := [some (.ref 100), some (.int i1)]) (st' := [.int i1]) (h' := h) (P := True) 1 rfl rfl trivial ?_
  refine wp_br (P := True) (c := i1 < 0) (t := 5) (st' := []) rfl rfl trivial (fun c1 => ?_) (fun c1 => ?_)
  · skip
    have H := H.1 c1
    exact wp_end (o := .inr 0) (h' := mx_ex h) (P := mx_c h = 292 ∧ (([] : List Value).map mx_cat).sum ≤ 8) rfl rfl ⟨G.1, Nat.le_of_ble_eq_true rfl⟩ H
  · skip
    have H := H.2 c1
    refine wp_steps (i' := 4) (ls' := [some (.ref 100), some (.int i1)]) (st' := [.int 200, .int i1]) (h' := h) (P := True) 2 rfl rfl trivial ?_
    refine wp_br (P := True) (c := i1 ≤ 200) (t := 10) (st' := []) rfl rfl trivial (fun c2 => ?_) (fun c2 => ?_)
    · have c2 := Int32.not_lt.mpr c2
      have H := H.2 c2
      exact wp_end (o := .inl none) (h' := h) (P := True) rfl rfl trivial H
    · have c2 := Int32.not_le.mp c2
      have H := H.1 c2
      exact wp_end (o := .inr 0) (h' := mx_ex h) (P := mx_c h = 292 ∧ (([] : List Value).map mx_cat).sum ≤ 8) rfl rfl ⟨G.1, Nat.le_of_ble_eq_true rfl⟩ H
/-! 188: StoneBacks.needTried(I)V -/
set_option maxRecDepth 8000 in
theorem tr_188_0 {d : Nat} {h : mxH} {Q : mxO → mxH → Prop} {i1 : Int32} {vn vd vr vq : Nat} (G : mxG h) (S : mxS h vn vd vr vq) (H : ((i1 < 0 → Q (.inr 0) (mx_ex h)) ∧ (¬ i1 < 0 → ((100 < i1 → Q (.inr 0) (mx_ex h)) ∧ (¬ 100 < i1 → Q (.inl none) h))))) : mx_wp d 188 0 (mx_fr 188 [.ref 100, .int i1]) [] h Q := by
  show mx_wp d 188 0 [some (.ref 100), some (.int i1)] [] h Q
  refine wp_steps (i' := 1) (ls' := [some (.ref 100), some (.int i1)]) (st' := [.int i1]) (h' := h) (P := True) 1 rfl rfl trivial ?_
  refine wp_br (P := True) (c := i1 < 0) (t := 5) (st' := []) rfl rfl trivial (fun c1 => ?_) (fun c1 => ?_)
  · skip
    have H := H.1 c1
    exact wp_end (o := .inr 0) (h' := mx_ex h) (P := mx_c h = 292 ∧ (([] : List Value).map mx_cat).sum ≤ 8) rfl rfl ⟨G.1, Nat.le_of_ble_eq_true rfl⟩ H
  · skip
    have H := H.2 c1
    refine wp_steps (i' := 4) (ls' := [some (.ref 100), some (.int i1)]) (st' := [.int 100, .int i1]) (h' := h) (P := True) 2 rfl rfl trivial ?_
    refine wp_br (P := True) (c := i1 ≤ 100) (t := 10) (st' := []) rfl rfl trivial (fun c2 => ?_) (fun c2 => ?_)
    · have c2 := Int32.not_lt.mpr c2
      have H := H.2 c2
      exact wp_end (o := .inl none) (h' := h) (P := True) rfl rfl trivial H
    · have c2 := Int32.not_le.mp c2
      have H := H.1 c2
      exact wp_end (o := .inr 0) (h' := mx_ex h) (P := mx_c h = 292 ∧ (([] : List Value).map mx_cat).sum ≤ 8) rfl rfl ⟨G.1, Nat.le_of_ble_eq_true rfl⟩ H
/-! 178: StoneBacks.log(II)I -/
set_option maxRecDepth 8000 in
theorem tr_178_0 {d : Nat} {h : mxH} {Q : mxO → mxH → Prop} {i1 : Int32} {i2 : Int32} {vn vd vr vq : Nat} (G : mxG h) (S : mxS h vn vd vr vq) (H : ((i2 < 0 → Q (.inr 3) (mx_ex h)) ∧ (¬ i2 < 0 → ((i2 < 4 → (((i1 < 0 → True) ∧ (¬ i1 < 0 → ((i1 < (mx_i h (vn + 13) 0) → ((i2 < 0 → True) ∧ (¬ i2 < 0 → ((i2 < 4 → (vp_in (((((mx_i h (vn + 13) 0) - 1) - i1) * 4) + i2) 240 ∧ True)) ∧ (¬ i2 < 4 → True))))) ∧ (¬ i1 < (mx_i h (vn + 13) 0) → True)))) ∧ Q (.inl (some (.int (V_3 h vn i1 i2)))) h)) ∧ (¬ i2 < 4 → Q (.inr 3) (mx_ex h)))))) : mx_wp (d + 1) 178 0 (mx_fr 178 [.ref 100, .int i1, .int i2]) [] h Q := by
  show mx_wp (d + 1) 178 0 [some (.ref 100), some (.int i1), some (.int i2)] [] h Q
  refine wp_steps (i' := 1) (ls' := [some (.ref 100), some (.int i1), some (.int i2)]) (st' := [.int i2]) (h' := h) (P := True) 1 rfl rfl trivial ?_
  refine wp_br (P := True) (c := i2 < 0) (t := 5) (st' := []) rfl rfl trivial (fun c1 => ?_) (fun c1 => ?_)
  · skip
    have H := H.1 c1
    exact wp_end (o := .inr 3) (h' := mx_ex h) (P := mx_c h = 292 ∧ (([] : List Value).map mx_cat).sum ≤ 8) rfl rfl ⟨G.1, Nat.le_of_ble_eq_true rfl⟩ H
  · skip
    have H := H.2 c1
    refine wp_steps (i' := 4) (ls' := [some (.ref 100), some (.int i1), some (.int i2)]) (st' := [.int 4, .int i2]) (h' := h) (P := True) 2 rfl rfl trivial ?_
    refine wp_br (P := True) (c := i2 < 4) (t := 10) (st' := []) rfl rfl trivial (fun c2 => ?_) (fun c2 => ?_)
    · skip
      have H := H.1 c2
      refine wp_steps (i' := 12) (ls' := [some (.ref 100), some (.int i1), some (.int i2)]) (st' := [.ref (mx_r h 100 4)]) (h' := h) (P := ((mxT 100).1 = 10 ∧ mxG h) ∧ True) 2 rfl rfl ⟨⟨(congrArg Prod.fst sT_100), G⟩, trivial⟩ ?_
      rw [mxS_4 S]
      refine wp_steps (i' := 15) (ls' := [some (.ref 100), some (.int i1), some (.int i2)]) (st' := [.int i2, .int i1, .ref (vn + 13)]) (h' := h) (P := ((mxT vn).1 = 9 ∧ mxG h) ∧ True) 3 rfl rfl ⟨⟨(congrArg Prod.fst (sV_0 (mxS_vn S))), G⟩, trivial⟩ ?_
      obtain ⟨o3, H⟩ := H
      refine wp_call (b := false) (y' := 3) (as := [.ref (vn + 13), .int i1, .int i2]) (rest := []) (P := ((mxT (vn + 13)).1 = mxRc 3 ∧ mxG h)) rfl (by with_unfolding_all rfl) ⟨(congrArg Prod.fst (sV_13 (mxS_vn S))), G⟩ (Nat.le_of_ble_eq_true rfl) (sp_3 G (mxS_vn S) o3 ?_)
      show mx_wp (d + 1) 178 16 [some (.ref 100), some (.int i1), some (.int i2)] [.int (V_3 h vn i1 i2)] h Q
      exact wp_end (o := .inl (some (.int (V_3 h vn i1 i2)))) (h' := h) (P := True) rfl rfl trivial H
    · skip
      have H := H.2 c2
      exact wp_end (o := .inr 3) (h' := mx_ex h) (P := mx_c h = 292 ∧ (([] : List Value).map mx_cat).sum ≤ 8) rfl rfl ⟨G.1, Nat.le_of_ble_eq_true rfl⟩ H
/-! 190: StoneBacksModel.thrown()I -/
set_option maxRecDepth 8000 in
theorem tr_190_0 {d : Nat} {h : mxH} {Q : mxO → mxH → Prop}  (G : mxG h)  (H : Q (.inl (some (.int (mx_i h 381 0)))) h) : mx_wp d 190 0 (mx_fr 190 [.ref 381]) [] h Q := by
  show mx_wp d 190 0 [some (.ref 381)] [] h Q
  refine wp_steps (i' := 2) (ls' := [some (.ref 381)]) (st' := [.int (mx_i h 381 0)]) (h' := h) (P := ((mxT 381).1 = 11 ∧ mxG h) ∧ True) 2 rfl rfl ⟨⟨(congrArg Prod.fst sT_381), G⟩, trivial⟩ ?_
  exact wp_end (o := .inl (some (.int (mx_i h 381 0)))) (h' := h) (P := True) rfl rfl trivial H
def V_190 (h : mxH) : Int32 := (mx_i h 381 0)
theorem sp_190 {d : Nat} {h : mxH} {Q : mxO → mxH → Prop}  (G : mxG h)  (k : Q (.inl (some (.int (V_190 h)))) h) : mx_wp d 190 0 (mx_fr 190 [.ref 381]) [] h Q := by
  unfold V_190 at k
  refine tr_190_0 G  ?_
  exact k
/-! 191: StoneBacksModel.isIn(III)Z -/
set_option maxRecDepth 8000 in
theorem tr_191_0 {d : Nat} {h : mxH} {Q : mxO → mxH → Prop} {i0 : Int32} {i1 : Int32} {i2 : Int32} (G : mxG h)  (H : (∀ (v1 : Int32), v1 = ((if i0 < i1 then 0 else (if i2 < i0 then 0 else 1)) : Int32) → Q (.inl (some (.int v1))) h)) : mx_wp d 191 0 (mx_fr 191 [.int i0, .int i1, .int i2]) [] h Q := by
  show mx_wp d 191 0 [some (.int i0), some (.int i1), some (.int i2)] [] h Q
  refine wp_steps (i' := 2) (ls' := [some (.int i0), some (.int i1), some (.int i2)]) (st' := [.int i1, .int i0]) (h' := h) (P := True) 2 rfl rfl trivial ?_
  have J : ∀ (v1 : Int32) (ev1 : v1 = ((if i0 < i1 then 0 else (if i2 < i0 then 0 else 1)) : Int32)), mx_wp d 191 9 [some (.int i0), some (.int i1), some (.int i2)] [.int v1] h Q := by
    intro v1 ev1
    have H := H v1 ev1
    exact wp_end (o := .inl (some (.int v1))) (h' := h) (P := (v1 = 0 ∨ v1 = 1)) rfl rfl (b01 ev1 (by repeat' (first | exact Or.inl rfl | exact Or.inr rfl | split))) H
  refine wp_br (P := True) (c := i0 < i1) (t := 8) (st' := []) rfl rfl trivial (fun c2 => ?_) (fun c2 => ?_)
  · skip
    refine wp_steps (i' := 9) (ls' := [some (.int i0), some (.int i1), some (.int i2)]) (st' := [.int 0]) (h' := h) (P := True) 1 rfl rfl trivial ?_
    exact J _ (by rw [if_pos c2])
  · skip
    refine wp_steps (i' := 5) (ls' := [some (.int i0), some (.int i1), some (.int i2)]) (st' := [.int i2, .int i0]) (h' := h) (P := True) 2 rfl rfl trivial ?_
    refine wp_br (P := True) (c := i2 < i0) (t := 8) (st' := []) rfl rfl trivial (fun c3 => ?_) (fun c3 => ?_)
    · skip
      refine wp_steps (i' := 9) (ls' := [some (.int i0), some (.int i1), some (.int i2)]) (st' := [.int 0]) (h' := h) (P := True) 1 rfl rfl trivial ?_
      exact J _ (by rw [if_neg c2, if_pos c3])
    · skip
      refine wp_steps (i' := 7) (ls' := [some (.int i0), some (.int i1), some (.int i2)]) (st' := [.int 1]) (h' := h) (P := True) 1 rfl rfl trivial ?_
      refine wp_J (j := 9) (st' := [.int 1]) rfl rfl ?_
      exact J _ (by rw [if_neg c2, if_neg c3])
def V_191 (r : Nat → Int32) (i0 : Int32) (i1 : Int32) (i2 : Int32) : Int32 := ((if i0 < i1 then 0 else (if i2 < i0 then 0 else 1)) : Int32)
theorem sp_191 {d : Nat} {h : mxH} {Q : mxO → mxH → Prop} {i0 : Int32} {i1 : Int32} {i2 : Int32} (G : mxG h)  (k : Q (.inl (some (.int (V_191 (mx_i h 382) i0 i1 i2)))) h) : mx_wp d 191 0 (mx_fr 191 [.int i0, .int i1, .int i2]) [] h Q := by
  unfold V_191 at k
  refine tr_191_0 G  ?_
  intro v1 ev1
  subst ev1
  exact k
/-! 192: StoneBacksModel.lesser(II)I -/
set_option maxRecDepth 8000 in
theorem tr_192_0 {d : Nat} {h : mxH} {Q : mxO → mxH → Prop} {i0 : Int32} {i1 : Int32} (G : mxG h)  (H : (∀ (v1 : Int32), v1 = ((if i0 < i1 then i0 else i1) : Int32) → Q (.inl (some (.int v1))) h)) : mx_wp d 192 0 (mx_fr 192 [.int i0, .int i1]) [] h Q := by
  show mx_wp d 192 0 [some (.int i0), some (.int i1)] [] h Q
  refine wp_steps (i' := 2) (ls' := [some (.int i0), some (.int i1)]) (st' := [.int i1, .int i0]) (h' := h) (P := True) 2 rfl rfl trivial ?_
  have J : ∀ (v1 : Int32) (ev1 : v1 = ((if i0 < i1 then i0 else i1) : Int32)), mx_wp d 192 6 [some (.int i0), some (.int i1)] [.int v1] h Q := by
    intro v1 ev1
    have H := H v1 ev1
    exact wp_end (o := .inl (some (.int v1))) (h' := h) (P := True) rfl rfl trivial H
  refine wp_br (P := True) (c := i1 ≤ i0) (t := 5) (st' := []) rfl rfl trivial (fun c2 => ?_) (fun c2 => ?_)
  · have c2 := Int32.not_lt.mpr c2
    refine wp_steps (i' := 6) (ls' := [some (.int i0), some (.int i1)]) (st' := [.int i1]) (h' := h) (P := True) 1 rfl rfl trivial ?_
    exact J _ (by rw [if_neg c2])
  · have c2 := Int32.not_le.mp c2
    refine wp_steps (i' := 4) (ls' := [some (.int i0), some (.int i1)]) (st' := [.int i0]) (h' := h) (P := True) 1 rfl rfl trivial ?_
    refine wp_J (j := 6) (st' := [.int i0]) rfl rfl ?_
    exact J _ (by rw [if_pos c2])
def V_192 (r : Nat → Int32) (i0 : Int32) (i1 : Int32) : Int32 := ((if i0 < i1 then i0 else i1) : Int32)
theorem sp_192 {d : Nat} {h : mxH} {Q : mxO → mxH → Prop} {i0 : Int32} {i1 : Int32} (G : mxG h)  (k : Q (.inl (some (.int (V_192 (mx_i h 382) i0 i1)))) h) : mx_wp d 192 0 (mx_fr 192 [.int i0, .int i1]) [] h Q := by
  unfold V_192 at k
  refine tr_192_0 G  ?_
  intro v1 ev1
  subst ev1
  exact k
/-! 193: StoneBacksModel.greater(II)I -/
set_option maxRecDepth 8000 in
theorem tr_193_0 {d : Nat} {h : mxH} {Q : mxO → mxH → Prop} {i0 : Int32} {i1 : Int32} (G : mxG h)  (H : (∀ (v1 : Int32), v1 = ((if i1 < i0 then i0 else i1) : Int32) → Q (.inl (some (.int v1))) h)) : mx_wp d 193 0 (mx_fr 193 [.int i0, .int i1]) [] h Q := by
  show mx_wp d 193 0 [some (.int i0), some (.int i1)] [] h Q
  refine wp_steps (i' := 2) (ls' := [some (.int i0), some (.int i1)]) (st' := [.int i1, .int i0]) (h' := h) (P := True) 2 rfl rfl trivial ?_
  have J : ∀ (v1 : Int32) (ev1 : v1 = ((if i1 < i0 then i0 else i1) : Int32)), mx_wp d 193 6 [some (.int i0), some (.int i1)] [.int v1] h Q := by
    intro v1 ev1
    have H := H v1 ev1
    exact wp_end (o := .inl (some (.int v1))) (h' := h) (P := True) rfl rfl trivial H
  refine wp_br (P := True) (c := i0 ≤ i1) (t := 5) (st' := []) rfl rfl trivial (fun c2 => ?_) (fun c2 => ?_)
  · have c2 := Int32.not_lt.mpr c2
    refine wp_steps (i' := 6) (ls' := [some (.int i0), some (.int i1)]) (st' := [.int i1]) (h' := h) (P := True) 1 rfl rfl trivial ?_
    exact J _ (by rw [if_neg c2])
  · have c2 := Int32.not_le.mp c2
    refine wp_steps (i' := 4) (ls' := [some (.int i0), some (.int i1)]) (st' := [.int i0]) (h' := h) (P := True) 1 rfl rfl trivial ?_
    refine wp_J (j := 6) (st' := [.int i0]) rfl rfl ?_
    exact J _ (by rw [if_pos c2])
def V_193 (r : Nat → Int32) (i0 : Int32) (i1 : Int32) : Int32 := ((if i1 < i0 then i0 else i1) : Int32)
theorem sp_193 {d : Nat} {h : mxH} {Q : mxO → mxH → Prop} {i0 : Int32} {i1 : Int32} (G : mxG h)  (k : Q (.inl (some (.int (V_193 (mx_i h 382) i0 i1)))) h) : mx_wp d 193 0 (mx_fr 193 [.int i0, .int i1]) [] h Q := by
  unfold V_193 at k
  refine tr_193_0 G  ?_
  intro v1 ev1
  subst ev1
  exact k
/-! 194: StoneBacksModel.isOf(II)Z -/
set_option maxRecDepth 8000 in
theorem tr_194_0 {d : Nat} {h : mxH} {Q : mxO → mxH → Prop} {i0 : Int32} {i1 : Int32} (G : mxG h)  (H : (∀ (v1 : Int32), v1 = ((if ((i0 >>> (i1 &&& 31)) &&& 1) = 1 then 1 else 0) : Int32) → Q (.inl (some (.int v1))) h)) : mx_wp d 194 0 (mx_fr 194 [.int i0, .int i1]) [] h Q := by
  show mx_wp d 194 0 [some (.int i0), some (.int i1)] [] h Q
  refine wp_steps (i' := 6) (ls' := [some (.int i0), some (.int i1)]) (st' := [.int 1, .int ((i0 >>> (i1 &&& 31)) &&& 1)]) (h' := h) (P := True) 6 rfl rfl trivial ?_
  have J : ∀ (v1 : Int32) (ev1 : v1 = ((if ((i0 >>> (i1 &&& 31)) &&& 1) = 1 then 1 else 0) : Int32)), mx_wp d 194 10 [some (.int i0), some (.int i1)] [.int v1] h Q := by
    intro v1 ev1
    have H := H v1 ev1
    exact wp_end (o := .inl (some (.int v1))) (h' := h) (P := (v1 = 0 ∨ v1 = 1)) rfl rfl (b01 ev1 (by repeat' (first | exact Or.inl rfl | exact Or.inr rfl | split))) H
  refine wp_br (P := True) (c := ¬ ((i0 >>> (i1 &&& 31)) &&& 1) = 1) (t := 9) (st' := []) rfl rfl trivial (fun c2 => ?_) (fun c2 => ?_)
  · skip
    refine wp_steps (i' := 10) (ls' := [some (.int i0), some (.int i1)]) (st' := [.int 0]) (h' := h) (P := True) 1 rfl rfl trivial ?_
    exact J _ (by rw [if_neg c2])
  · have c2 := Decidable.of_not_not c2
    refine wp_steps (i' := 8) (ls' := [some (.int i0), some (.int i1)]) (st' := [.int 1]) (h' := h) (P := True) 1 rfl rfl trivial ?_
    refine wp_J (j := 10) (st' := [.int 1]) rfl rfl ?_
    exact J _ (by rw [if_pos c2])
def V_194 (r : Nat → Int32) (i0 : Int32) (i1 : Int32) : Int32 := ((if ((i0 >>> (i1 &&& 31)) &&& 1) = 1 then 1 else 0) : Int32)
theorem sp_194 {d : Nat} {h : mxH} {Q : mxO → mxH → Prop} {i0 : Int32} {i1 : Int32} (G : mxG h)  (k : Q (.inl (some (.int (V_194 (mx_i h 382) i0 i1)))) h) : mx_wp d 194 0 (mx_fr 194 [.int i0, .int i1]) [] h Q := by
  unfold V_194 at k
  refine tr_194_0 G  ?_
  intro v1 ev1
  subst ev1
  exact k
/-! 195: StoneBacksModel.bits(I)I -/
def H_195_4 (d : Nat) (h : mxH) (i0 : Int32) (i1 : Int32) (i2 : Int32) (Q : mxO → mxH → Prop) : Prop := mx_wp d 195 4 [some (.int i0), some (.int i1), some (.int i2)] [] h Q
set_option maxRecDepth 8000 in
theorem tr_195_0 {d : Nat} {h : mxH} {Q : mxO → mxH → Prop} {i0 : Int32} (G : mxG h)  (H : H_195_4 d h i0 0 0 Q) : mx_wp d 195 0 (mx_fr 195 [.int i0]) [] h Q := by
  show mx_wp d 195 0 [some (.int i0), none, none] [] h Q
  refine wp_steps (i' := 4) (ls' := [some (.int i0), some (.int 0), some (.int 0)]) (st' := []) (h' := h) (P := True) 4 rfl rfl trivial ?_
  exact H 
set_option maxRecDepth 8000 in
theorem tr_195_4 {d : Nat} {h : mxH} {Q : mxO → mxH → Prop}  {i0 : Int32} {i1 : Int32} {i2 : Int32} (G : mxG h)  (H : ((i2 < 31 → H_195_4 d h i0 (i1 + ((i0 >>> (i2 &&& 31)) &&& 1)) (i2 + 1) Q) ∧ (¬ i2 < 31 → Q (.inl (some (.int i1))) h))) : H_195_4 d h i0 i1 i2 Q := by
  show mx_wp d 195 4 [some (.int i0), some (.int i1), some (.int i2)] [] h Q
  refine wp_steps (i' := 6) (ls' := [some (.int i0), some (.int i1), some (.int i2)]) (st' := [.int 31, .int i2]) (h' := h) (P := True) 2 rfl rfl trivial ?_
  refine wp_br (P := True) (c := 31 ≤ i2) (t := 17) (st' := []) rfl rfl trivial (fun c1 => ?_) (fun c1 => ?_)
  · have c1 := Int32.not_lt.mpr c1
    have H := H.2 c1
    refine wp_steps (i' := 18) (ls' := [some (.int i0), some (.int i1), some (.int i2)]) (st' := [.int i1]) (h' := h) (P := True) 1 rfl rfl trivial ?_
    exact wp_end (o := .inl (some (.int i1))) (h' := h) (P := True) rfl rfl trivial H
  · have c1 := Int32.not_le.mp c1
    have H := H.1 c1
    refine wp_steps (i' := 16) (ls' := [some (.int i0), some (.int (i1 + ((i0 >>> (i2 &&& 31)) &&& 1))), some (.int (i2 + 1))]) (st' := []) (h' := h) (P := True) 9 rfl rfl trivial ?_
    refine wp_J (j := 4) (st' := []) rfl rfl ?_
    exact H 
def F_195_4 (r : Nat → Int32) (i0 : Int32) (z : Nat) (s : Int32) : Int32 := (s + ((i0 >>> ((nI z) &&& 31)) &&& 1))
theorem lp_195_4 {d : Nat} {h : mxH} {Q : mxO → mxH → Prop} {i0 : Int32} {s0 : Int32} {n : Nat} (z0 : Nat) (G : mxG h)  (hB : (31 : Int32) = nI n) (hn : n < 2147483648) (hz : z0 ≤ n) (k : Q (.inl (some (.int (fz (F_195_4 (mx_i h 382) i0) z0 n s0)))) h) : H_195_4 d h i0 s0 (nI z0) Q := by
  have L : ∀ (j z : Nat), z0 ≤ z → z + j = n → H_195_4 d h i0 (fz (F_195_4 (mx_i h 382) i0) z0 z s0) (nI z) Q := by
    intro j
    induction j with
    | zero =>
      intro z hz0 hzn
      have hzn : z = n := by omega
      subst hzn
      refine tr_195_4 G  ⟨fun c9 => absurd (hB ▸ c9) Int32.lt_irrefl, fun c9 => k⟩
    | succ j ih =>
      intro z hz0 hzn
      have hih := ih (z + 1) (by omega) (by omega)
      rw [nI_succ, fz_s hz0] at hih
      refine tr_195_4 G  ⟨fun c9 => ?_, fun c9 => absurd (hB.symm ▸ nI_lt (by omega) hn) c9⟩
      exact hih
  have L0 := L (n - z0) z0 (Nat.le_refl _) (by omega)
  simp only [fz_0] at L0
  exact L0
def V_195 (r : Nat → Int32) (i0 : Int32) : Int32 := (fo (F_195_4 (r) i0) 31 0)
theorem sp_195 {d : Nat} {h : mxH} {Q : mxO → mxH → Prop} {i0 : Int32} (G : mxG h)  (k : Q (.inl (some (.int (V_195 (mx_i h 382) i0)))) h) : mx_wp d 195 0 (mx_fr 195 [.int i0]) [] h Q := by
  unfold V_195 at k
  obtain ⟨n, hn, hB, hn2⟩ : ∃ n : Nat, n ≤ 31 ∧ (31 : Int32) = nI n ∧ n = 31 := ⟨31, Nat.le_refl _, rfl, rfl⟩
  rw [← hn2] at k
  refine tr_195_0 G  ?_
  refine lp_195_4 (s0 := 0) 0 G  hB (by omega) (Nat.zero_le _) ?_
  simp only [fz_fo]
  exact k
/-! 196: StoneBacksModel.of(II)I -/
set_option maxRecDepth 8000 in
theorem tr_196_0 {d : Nat} {h : mxH} {Q : mxO → mxH → Prop} {i1 : Int32} {i2 : Int32} (G : mxG h)  (H : (vp_in ((33 + (6 * i1)) + i2) 769 ∧ Q (.inl (some (.int (mx_i h 382 ((33 + (6 * i1)) + i2).toNatClampNeg)))) h)) : mx_wp d 196 0 (mx_fr 196 [.ref 381, .int i1, .int i2]) [] h Q := by
  show mx_wp d 196 0 [some (.ref 381), some (.int i1), some (.int i2)] [] h Q
  obtain ⟨o1, H⟩ := H
  refine wp_steps (i' := 10) (ls' := [some (.ref 381), some (.int i1), some (.int i2)]) (st' := [.int (mx_i h 382 ((33 + (6 * i1)) + i2).toNatClampNeg)]) (h' := h) (P := ((mxT 381).1 = 11 ∧ mxG h) ∧ (((mxT 382).1 = 50 ∧ mxG h) ∧ vp_in ((33 + (6 * i1)) + i2) (mxT 382).2) ∧ True) 10 rfl rfl ⟨⟨(congrArg Prod.fst sT_381), G⟩, (cA sT_382 G o1), trivial⟩ ?_
  exact wp_end (o := .inl (some (.int (mx_i h 382 ((33 + (6 * i1)) + i2).toNatClampNeg)))) (h' := h) (P := True) rfl rfl trivial H
def V_196 (r : Nat → Int32) (i1 : Int32) (i2 : Int32) : Int32 := (r ((33 + (6 * i1)) + i2).toNatClampNeg)
theorem sp_196 {d : Nat} {h : mxH} {Q : mxO → mxH → Prop} {i1 : Int32} {i2 : Int32} (G : mxG h)  (x0 : vp_in ((33 + (6 * i1)) + i2) 769) (k : Q (.inl (some (.int (V_196 (mx_i h 382) i1 i2)))) h) : mx_wp d 196 0 (mx_fr 196 [.ref 381, .int i1, .int i2]) [] h Q := by
  unfold V_196 at k
  have hob : (vp_in ((33 + (6 * i1)) + i2) 769 ∧ True) := ⟨x0, trivial⟩
  refine tr_196_0 G  ?_
  obtain ⟨q0, hob⟩ := hob
  refine ⟨q0, ?_⟩
  exact k
/-! 197: StoneBacksModel.put(III)V -/
set_option maxRecDepth 8000 in
theorem tr_197_0 {d : Nat} {h : mxH} {Q : mxO → mxH → Prop} {i1 : Int32} {i2 : Int32} {i3 : Int32} (G : mxG h)  (H : (vp_in ((33 + (6 * i1)) + i2) 769 ∧ (∀ h2, h2 = mx_wi h 382 ((33 + (6 * i1)) + i2).toNatClampNeg i3 → Q (.inl none) h2))) : mx_wp d 197 0 (mx_fr 197 [.ref 381, .int i1, .int i2, .int i3]) [] h Q := by
  show mx_wp d 197 0 [some (.ref 381), some (.int i1), some (.int i2), some (.int i3)] [] h Q
  obtain ⟨o1, H⟩ := H
  refine wp_steps (i' := 11) (ls' := [some (.ref 381), some (.int i1), some (.int i2), some (.int i3)]) (st' := []) (h' := mx_wi h 382 ((33 + (6 * i1)) + i2).toNatClampNeg i3) (P := ((mxT 381).1 = 11 ∧ mxG h) ∧ (((mxT 382).1 = 50 ∧ mxG h) ∧ vp_in ((33 + (6 * i1)) + i2) (mxT 382).2) ∧ True) 11 rfl rfl ⟨⟨(congrArg Prod.fst sT_381), G⟩, (cA sT_382 G o1), trivial⟩ ?_
  obtain ⟨h2, e3⟩ : ∃ z9, z9 = mx_wi h 382 ((33 + (6 * i1)) + i2).toNatClampNeg i3 := ⟨_, rfl⟩
  rw [← e3]
  have H := H h2 e3
  have G4 : mxG h2 := e3 ▸ mxG_wi G
  exact wp_end (o := .inl none) (h' := h2) (P := True) rfl rfl trivial H
def W_197 (h : mxH) (i1 : Int32) (i2 : Int32) (i3 : Int32) : mxH := (mx_wi h 382 ((33 + (6 * i1)) + i2).toNatClampNeg i3)
theorem KW_197 {h : mxH} {i1 : Int32} {i2 : Int32} {i3 : Int32} : mxK h (W_197 h i1 i2 i3) := by
  unfold W_197
  repeat' (first | with_reducible exact mxK_rfl | with_reducible exact mxK_wi | with_reducible exact mxK_wrow | with_reducible refine mxK_ite ?_ ?_ | with_reducible refine mxK_tr ?_ mxK_wi | with_reducible refine mxK_tr ?_ mxK_wrow)
theorem sp_197 {d : Nat} {h : mxH} {Q : mxO → mxH → Prop} {i1 : Int32} {i2 : Int32} {i3 : Int32} (G : mxG h)  (x0 : vp_in ((33 + (6 * i1)) + i2) 769) (k : Q (.inl none) (W_197 h i1 i2 i3)) : mx_wp d 197 0 (mx_fr 197 [.ref 381, .int i1, .int i2, .int i3]) [] h Q := by
  unfold W_197 at k
  have hob : (vp_in ((33 + (6 * i1)) + i2) 769 ∧ True) := ⟨x0, trivial⟩
  refine tr_197_0 G  ?_
  obtain ⟨q0, hob⟩ := hob
  refine ⟨q0, ?_⟩
  intro h2 eh2
  subst eh2
  exact k
/-! 198: StoneBacksModel.ofStone(II)I -/
set_option maxRecDepth 8000 in
theorem tr_198_0 {d : Nat} {h : mxH} {Q : mxO → mxH → Prop} {i1 : Int32} {i2 : Int32} (G : mxG h)  (H : (vp_in ((69 + (6 * i1)) + i2) 769 ∧ Q (.inl (some (.int (mx_i h 382 ((69 + (6 * i1)) + i2).toNatClampNeg)))) h)) : mx_wp d 198 0 (mx_fr 198 [.ref 381, .int i1, .int i2]) [] h Q := by
  show mx_wp d 198 0 [some (.ref 381), some (.int i1), some (.int i2)] [] h Q
  obtain ⟨o1, H⟩ := H
  refine wp_steps (i' := 10) (ls' := [some (.ref 381), some (.int i1), some (.int i2)]) (st' := [.int (mx_i h 382 ((69 + (6 * i1)) + i2).toNatClampNeg)]) (h' := h) (P := ((mxT 381).1 = 11 ∧ mxG h) ∧ (((mxT 382).1 = 50 ∧ mxG h) ∧ vp_in ((69 + (6 * i1)) + i2) (mxT 382).2) ∧ True) 10 rfl rfl ⟨⟨(congrArg Prod.fst sT_381), G⟩, (cA sT_382 G o1), trivial⟩ ?_
  exact wp_end (o := .inl (some (.int (mx_i h 382 ((69 + (6 * i1)) + i2).toNatClampNeg)))) (h' := h) (P := True) rfl rfl trivial H
def V_198 (r : Nat → Int32) (i1 : Int32) (i2 : Int32) : Int32 := (r ((69 + (6 * i1)) + i2).toNatClampNeg)
theorem sp_198 {d : Nat} {h : mxH} {Q : mxO → mxH → Prop} {i1 : Int32} {i2 : Int32} (G : mxG h)  (x0 : vp_in ((69 + (6 * i1)) + i2) 769) (k : Q (.inl (some (.int (V_198 (mx_i h 382) i1 i2)))) h) : mx_wp d 198 0 (mx_fr 198 [.ref 381, .int i1, .int i2]) [] h Q := by
  unfold V_198 at k
  have hob : (vp_in ((69 + (6 * i1)) + i2) 769 ∧ True) := ⟨x0, trivial⟩
  refine tr_198_0 G  ?_
  obtain ⟨q0, hob⟩ := hob
  refine ⟨q0, ?_⟩
  exact k
/-! 199: StoneBacksModel.putStone(III)V -/
set_option maxRecDepth 8000 in
theorem tr_199_0 {d : Nat} {h : mxH} {Q : mxO → mxH → Prop} {i1 : Int32} {i2 : Int32} {i3 : Int32} (G : mxG h)  (H : (vp_in ((69 + (6 * i1)) + i2) 769 ∧ (∀ h2, h2 = mx_wi h 382 ((69 + (6 * i1)) + i2).toNatClampNeg i3 → Q (.inl none) h2))) : mx_wp d 199 0 (mx_fr 199 [.ref 381, .int i1, .int i2, .int i3]) [] h Q := by
  show mx_wp d 199 0 [some (.ref 381), some (.int i1), some (.int i2), some (.int i3)] [] h Q
  obtain ⟨o1, H⟩ := H
  refine wp_steps (i' := 11) (ls' := [some (.ref 381), some (.int i1), some (.int i2), some (.int i3)]) (st' := []) (h' := mx_wi h 382 ((69 + (6 * i1)) + i2).toNatClampNeg i3) (P := ((mxT 381).1 = 11 ∧ mxG h) ∧ (((mxT 382).1 = 50 ∧ mxG h) ∧ vp_in ((69 + (6 * i1)) + i2) (mxT 382).2) ∧ True) 11 rfl rfl ⟨⟨(congrArg Prod.fst sT_381), G⟩, (cA sT_382 G o1), trivial⟩ ?_
  obtain ⟨h2, e3⟩ : ∃ z9, z9 = mx_wi h 382 ((69 + (6 * i1)) + i2).toNatClampNeg i3 := ⟨_, rfl⟩
  rw [← e3]
  have H := H h2 e3
  have G4 : mxG h2 := e3 ▸ mxG_wi G
  exact wp_end (o := .inl none) (h' := h2) (P := True) rfl rfl trivial H
def W_199 (h : mxH) (i1 : Int32) (i2 : Int32) (i3 : Int32) : mxH := (mx_wi h 382 ((69 + (6 * i1)) + i2).toNatClampNeg i3)
theorem KW_199 {h : mxH} {i1 : Int32} {i2 : Int32} {i3 : Int32} : mxK h (W_199 h i1 i2 i3) := by
  unfold W_199
  repeat' (first | with_reducible exact mxK_rfl | with_reducible exact mxK_wi | with_reducible exact mxK_wrow | with_reducible refine mxK_ite ?_ ?_ | with_reducible refine mxK_tr ?_ mxK_wi | with_reducible refine mxK_tr ?_ mxK_wrow)
theorem sp_199 {d : Nat} {h : mxH} {Q : mxO → mxH → Prop} {i1 : Int32} {i2 : Int32} {i3 : Int32} (G : mxG h)  (x0 : vp_in ((69 + (6 * i1)) + i2) 769) (k : Q (.inl none) (W_199 h i1 i2 i3)) : mx_wp d 199 0 (mx_fr 199 [.ref 381, .int i1, .int i2, .int i3]) [] h Q := by
  unfold W_199 at k
  have hob : (vp_in ((69 + (6 * i1)) + i2) 769 ∧ True) := ⟨x0, trivial⟩
  refine tr_199_0 G  ?_
  obtain ⟨q0, hob⟩ := hob
  refine ⟨q0, ?_⟩
  intro h2 eh2
  subst eh2
  exact k
/-! 200: StoneBacksModel.isPerson(I)Z -/
set_option maxRecDepth 8000 in
theorem tr_200_0 {d : Nat} {h : mxH} {Q : mxO → mxH → Prop} {i1 : Int32} (G : mxG h)  (H : (((V_191 (mx_i h 382) i1 (0 : Int32) ((mx_i h 382 3) - 1)) = 0 ∨ (V_191 (mx_i h 382) i1 (0 : Int32) ((mx_i h 382 3) - 1)) = 1) ∧ Q (.inl (some (.int (V_191 (mx_i h 382) i1 (0 : Int32) ((mx_i h 382 3) - 1))))) h)) : mx_wp (d + 1) 200 0 (mx_fr 200 [.ref 381, .int i1]) [] h Q := by
  show mx_wp (d + 1) 200 0 [some (.ref 381), some (.int i1)] [] h Q
  refine wp_steps (i' := 8) (ls' := [some (.ref 381), some (.int i1)]) (st' := [.int ((mx_i h 382 3) - 1), .int 0, .int i1]) (h' := h) (P := ((mxT 381).1 = 11 ∧ mxG h) ∧ (((mxT 382).1 = 50 ∧ mxG h) ∧ vp_in 3 (mxT 382).2) ∧ True) 8 rfl rfl ⟨⟨(congrArg Prod.fst sT_381), G⟩, (cA sT_382 G (vpl rfl)), trivial⟩ ?_
  refine wp_call (b := false) (y' := 191) (as := [.int i1, .int 0, .int ((mx_i h 382 3) - 1)]) (rest := []) (P := True) rfl (by with_unfolding_all rfl) trivial (Nat.le_of_ble_eq_true rfl) (sp_191 G ?_)
  show mx_wp (d + 1) 200 9 [some (.ref 381), some (.int i1)] [.int (V_191 (mx_i h 382) i1 (0 : Int32) ((mx_i h 382 3) - 1))] h Q
  obtain ⟨o1, H⟩ := H
  exact wp_end (o := .inl (some (.int (V_191 (mx_i h 382) i1 (0 : Int32) ((mx_i h 382 3) - 1))))) (h' := h) (P := ((V_191 (mx_i h 382) i1 (0 : Int32) ((mx_i h 382 3) - 1)) = 0 ∨ (V_191 (mx_i h 382) i1 (0 : Int32) ((mx_i h 382 3) - 1)) = 1)) rfl rfl o1 H
def V_200 (r : Nat → Int32) (i1 : Int32) : Int32 := (V_191 (r) i1 (0 : Int32) ((r 3) - 1))
theorem sp_200 {d : Nat} {h : mxH} {Q : mxO → mxH → Prop} {i1 : Int32} (G : mxG h)  (x0 : ((V_191 (mx_i h 382) i1 (0 : Int32) ((mx_i h 382 3) - 1)) = 0 ∨ (V_191 (mx_i h 382) i1 (0 : Int32) ((mx_i h 382 3) - 1)) = 1)) (k : Q (.inl (some (.int (V_200 (mx_i h 382) i1)))) h) : mx_wp (d + 1) 200 0 (mx_fr 200 [.ref 381, .int i1]) [] h Q := by
  unfold V_200 at k
  have hob : (((V_191 (mx_i h 382) i1 (0 : Int32) ((mx_i h 382 3) - 1)) = 0 ∨ (V_191 (mx_i h 382) i1 (0 : Int32) ((mx_i h 382 3) - 1)) = 1) ∧ True) := ⟨x0, trivial⟩
  refine tr_200_0 G  ?_
  obtain ⟨q0, hob⟩ := hob
  refine ⟨q0, ?_⟩
  exact k
/-! 201: StoneBacksModel.isStone(I)Z -/
set_option maxRecDepth 8000 in
theorem tr_201_0 {d : Nat} {h : mxH} {Q : mxO → mxH → Prop} {i1 : Int32} (G : mxG h)  (H : (((V_191 (mx_i h 382) i1 (0 : Int32) ((mx_i h 382 4) - 1)) = 0 ∨ (V_191 (mx_i h 382) i1 (0 : Int32) ((mx_i h 382 4) - 1)) = 1) ∧ Q (.inl (some (.int (V_191 (mx_i h 382) i1 (0 : Int32) ((mx_i h 382 4) - 1))))) h)) : mx_wp (d + 1) 201 0 (mx_fr 201 [.ref 381, .int i1]) [] h Q := by
  show mx_wp (d + 1) 201 0 [some (.ref 381), some (.int i1)] [] h Q
  refine wp_steps (i' := 8) (ls' := [some (.ref 381), some (.int i1)]) (st' := [.int ((mx_i h 382 4) - 1), .int 0, .int i1]) (h' := h) (P := ((mxT 381).1 = 11 ∧ mxG h) ∧ (((mxT 382).1 = 50 ∧ mxG h) ∧ vp_in 4 (mxT 382).2) ∧ True) 8 rfl rfl ⟨⟨(congrArg Prod.fst sT_381), G⟩, (cA sT_382 G (vpl rfl)), trivial⟩ ?_
  refine wp_call (b := false) (y' := 191) (as := [.int i1, .int 0, .int ((mx_i h 382 4) - 1)]) (rest := []) (P := True) rfl (by with_unfolding_all rfl) trivial (Nat.le_of_ble_eq_true rfl) (sp_191 G ?_)
  show mx_wp (d + 1) 201 9 [some (.ref 381), some (.int i1)] [.int (V_191 (mx_i h 382) i1 (0 : Int32) ((mx_i h 382 4) - 1))] h Q
  obtain ⟨o1, H⟩ := H
  exact wp_end (o := .inl (some (.int (V_191 (mx_i h 382) i1 (0 : Int32) ((mx_i h 382 4) - 1))))) (h' := h) (P := ((V_191 (mx_i h 382) i1 (0 : Int32) ((mx_i h 382 4) - 1)) = 0 ∨ (V_191 (mx_i h 382) i1 (0 : Int32) ((mx_i h 382 4) - 1)) = 1)) rfl rfl o1 H
def V_201 (r : Nat → Int32) (i1 : Int32) : Int32 := (V_191 (r) i1 (0 : Int32) ((r 4) - 1))
theorem sp_201 {d : Nat} {h : mxH} {Q : mxO → mxH → Prop} {i1 : Int32} (G : mxG h)  (x0 : ((V_191 (mx_i h 382) i1 (0 : Int32) ((mx_i h 382 4) - 1)) = 0 ∨ (V_191 (mx_i h 382) i1 (0 : Int32) ((mx_i h 382 4) - 1)) = 1)) (k : Q (.inl (some (.int (V_201 (mx_i h 382) i1)))) h) : mx_wp (d + 1) 201 0 (mx_fr 201 [.ref 381, .int i1]) [] h Q := by
  unfold V_201 at k
  have hob : (((V_191 (mx_i h 382) i1 (0 : Int32) ((mx_i h 382 4) - 1)) = 0 ∨ (V_191 (mx_i h 382) i1 (0 : Int32) ((mx_i h 382 4) - 1)) = 1) ∧ True) := ⟨x0, trivial⟩
  refine tr_201_0 G  ?_
  obtain ⟨q0, hob⟩ := hob
  refine ⟨q0, ?_⟩
  exact k
