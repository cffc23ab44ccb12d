/-! 135: StoneBacks.law()I -/
set_option maxRecDepth 8000 in
theorem tr_135_0 {d : Nat} {h : mxH} {Q : mxO → mxH → Prop} {vn vd vr vq : Nat} (G : mxG h) (S : mxS h vn vd vr vq) (H : ((∃ T n, Tx h T n ∧ mx_i h 101 1 = nI n) ∧ (∀ (h3 : mxH), p88 h h3 → ((∃ T n, Cl h3 T n 0) ∧ (∀ (x8 : Int32) (h9 : mxH), p30 vq h3 x8 h9 → ((x8 = 0 → vp_in (mx_i h9 101 3) 401) ∧ (∀ h14, h14 = mx_wi (mx_wi h9 100 14 (if x8 = 0 then V_94 h9 else -1)) 101 1 0 → ((x8 = 0 → Q (.inr 0) (mx_ex h14)) ∧ (¬ x8 = 0 → (∀ h20, h20 = mx_wr h14 100 6 vq → (∀ h24, h24 = mx_wr h20 100 7 vr → (∀ h29, h29 = mx_wi h24 100 13 0 → Q (.inl (some (.int (mx_i h29 vq 1)))) h29)))))))))))) : mx_wp (d + 7) 135 0 (mx_fr 135 [.ref 100]) [] h Q := by
  show mx_wp (d + 7) 135 0 [some (.ref 100), none, none] [] h Q
  refine wp_steps (i' := 2) (ls' := [some (.ref 100), none, none]) (st' := [.ref 101]) (h' := h) (P := ((mxT 100).1 = 10 ∧ mxG h) ∧ True) 2 rfl rfl ⟨⟨(congrArg Prod.fst sT_100), G⟩, trivial⟩ ?_
  obtain ⟨o1, H⟩ := H
  refine wp_call (b := false) (y' := 88) (as := [.ref 101]) (rest := []) (P := ((mxT 101).1 = mxRc 88 ∧ mxG h)) rfl (by with_unfolding_all rfl) ⟨(congrArg Prod.fst sT_101), G⟩ (Nat.le_of_ble_eq_true rfl) (sp_88 G o1 ?_)
  intro h3 p4
  show mx_wp (d + 7) 135 3 [some (.ref 100), none, none] [] h3 Q
  have H := H h3 p4
  have G5 : mxG h3 := agr_G p4.1.1 G
  have S6 := mxS_agr p4.1.1 S
  refine wp_steps (i' := 9) (ls' := [some (.ref 100), none, none]) (st' := [.ref (mx_r h3 100 7), .ref 101, .ref 107]) (h' := h3) (P := ((mxT 100).1 = 10 ∧ mxG h3) ∧ ((mxT 100).1 = 10 ∧ mxG h3) ∧ ((mxT 100).1 = 10 ∧ mxG h3) ∧ True) 6 rfl rfl ⟨⟨(congrArg Prod.fst sT_100), G5⟩, ⟨(congrArg Prod.fst sT_100), G5⟩, ⟨(congrArg Prod.fst sT_100), G5⟩, trivial⟩ ?_
  rw [mxS_7 S6]
  obtain ⟨o7, H⟩ := H
  refine wp_call (b := false) (y' := 30) (as := [.ref 107, .ref 101, .ref vq]) (rest := []) (P := ((mxT 107).1 = mxRc 30 ∧ mxG h3)) rfl (by with_unfolding_all rfl) ⟨(congrArg Prod.fst sT_107), G5⟩ (Nat.le_of_ble_eq_true rfl) (sp_30 G5 (mxS_vq S) o7 ?_)
  intro x8 h9 p10
  show mx_wp (d + 7) 135 10 [some (.ref 100), none, none] [.int x8] h9 Q
  have H := H x8 h9 p10
  have G11 : mxG h9 := mxU_G p10.1.1 G5
  have S12 := mxS_of (mxU_r p10.1.1) S6
  refine wp_steps (i' := 13) (ls' := [some (.ref 100), some (.int x8), none]) (st' := [.int x8, .ref 100]) (h' := h9) (P := True) 3 rfl rfl trivial ?_
  obtain ⟨o13, H⟩ := H
  refine wp_call (b := false) (y' := 137) (as := [.ref 100, .int x8]) (rest := []) (P := ((mxT 100).1 = mxRc 137 ∧ mxG h9)) rfl (by with_unfolding_all rfl) ⟨(congrArg Prod.fst sT_100), G11⟩ (Nat.le_of_ble_eq_true rfl) (sp_137 G11 S12 o13 ?_)
  show mx_wp (d + 7) 135 14 [some (.ref 100), some (.int x8), none] [] (mx_wi (mx_wi h9 100 14 (if x8 = 0 then V_94 h9 else -1)) 101 1 0) Q
  obtain ⟨h14, e15⟩ : ∃ z9, z9 = mx_wi (mx_wi h9 100 14 (if x8 = 0 then V_94 h9 else -1)) 101 1 0 := ⟨_, rfl⟩
  rw [← e15]
  have H := H h14 e15
  have K17 : mxK h9 h14 := e15 ▸ (mxK_tr mxK_wi mxK_wi)
  have G16 : mxG h14 := mxK_G K17 G11
  have S18 := mxK_S K17 S12
  refine wp_steps (i' := 15) (ls' := [some (.ref 100), some (.int x8), none]) (st' := [.int x8]) (h' := h14) (P := True) 1 rfl rfl trivial ?_
  refine wp_br (P := True) (c := ¬ x8 = 0) (t := 21) (st' := []) rfl rfl trivial (fun c19 => ?_) (fun c19 => ?_)
  · skip
    have H := H.2 c19
    refine wp_steps (i' := 23) (ls' := [some (.ref 100), some (.int x8), none]) (st' := [.ref (mx_r h14 100 6)]) (h' := h14) (P := ((mxT 100).1 = 10 ∧ mxG h14) ∧ True) 2 rfl rfl ⟨⟨(congrArg Prod.fst sT_100), G16⟩, trivial⟩ ?_
    rw [mxS_6 S18]
    refine wp_steps (i' := 27) (ls' := [some (.ref 100), some (.int x8), some (.ref vr)]) (st' := [.ref (mx_r h14 100 7), .ref 100]) (h' := h14) (P := ((mxT 100).1 = 10 ∧ mxG h14) ∧ True) 4 rfl rfl ⟨⟨(congrArg Prod.fst sT_100), G16⟩, trivial⟩ ?_
    rw [mxS_7 S18]
    refine wp_steps (i' := 28) (ls' := [some (.ref 100), some (.int x8), some (.ref vr)]) (st' := []) (h' := mx_wr h14 100 6 vq) (P := ((mxT 100).1 = 10 ∧ mxG h14) ∧ True) 1 rfl rfl ⟨⟨(congrArg Prod.fst sT_100), G16⟩, trivial⟩ ?_
    obtain ⟨h20, e21⟩ : ∃ z9, z9 = mx_wr h14 100 6 vq := ⟨_, rfl⟩
    rw [← e21]
    have H := H h20 e21
    have G22 : mxG h20 := e21 ▸ mxG_wr_9_6 G16
    refine wp_steps (i' := 31) (ls' := [some (.ref 100), some (.int x8), some (.ref vr)]) (st' := []) (h' := mx_wr h20 100 7 vr) (P := ((mxT 100).1 = 10 ∧ mxG h20) ∧ True) 3 rfl rfl ⟨⟨(congrArg Prod.fst sT_100), G22⟩, trivial⟩ ?_
    obtain ⟨h24, e25⟩ : ∃ z9, z9 = mx_wr h20 100 7 vr := ⟨_, rfl⟩
    rw [← e25]
    have H := H h24 e25
    have G26 : mxG h24 := e25 ▸ mxG_wr_9_7 G22
    have S28 := mxS_sw67 e21 e25 S18
    refine wp_steps (i' := 32) (ls' := [some (.ref 100), some (.int x8), some (.ref vr)]) (st' := [.ref 100]) (h' := h24) (P := True) 1 rfl rfl trivial ?_
    refine wp_call (b := false) (y' := 183) (as := [.ref 100]) (rest := []) (P := ((mxT 100).1 = mxRc 183 ∧ mxG h24)) rfl (by with_unfolding_all rfl) ⟨(congrArg Prod.fst sT_100), G26⟩ (Nat.le_of_ble_eq_true rfl) (sp_183 G26 S28 ?_)
    show mx_wp (d + 7) 135 33 [some (.ref 100), some (.int x8), some (.ref vr)] [] (mx_wi h24 100 13 0) Q
    obtain ⟨h29, e30⟩ : ∃ z9, z9 = mx_wi h24 100 13 0 := ⟨_, rfl⟩
    rw [← e30]
    have H := H h29 e30
    have K32 : mxK h24 h29 := e30 ▸ mxK_wi
    have G31 : mxG h29 := mxK_G K32 G26
    have S33 := mxK_S K32 S28
    refine wp_steps (i' := 35) (ls' := [some (.ref 100), some (.int x8), some (.ref vr)]) (st' := [.ref (mx_r h29 100 6)]) (h' := h29) (P := ((mxT 100).1 = 10 ∧ mxG h29) ∧ True) 2 rfl rfl ⟨⟨(congrArg Prod.fst sT_100), G31⟩, trivial⟩ ?_
    rw [mxS_6 S33]
    refine wp_steps (i' := 36) (ls' := [some (.ref 100), some (.int x8), some (.ref vr)]) (st' := [.int (mx_i h29 vq 1)]) (h' := h29) (P := ((mxT vq).1 = 3 ∧ mxG h29) ∧ True) 1 rfl rfl ⟨⟨(congrArg Prod.fst (sL_0 (mxS_vq S))), G31⟩, trivial⟩ ?_
    exact wp_end (o := .inl (some (.int (mx_i h29 vq 1)))) (h' := h29) (P := True) rfl rfl trivial H
  · have c19 := Decidable.of_not_not c19
    have H := H.1 c19
    exact wp_end (o := .inr 0) (h' := mx_ex h14) (P := mx_c h14 = 292 ∧ (([] : List Value).map mx_cat).sum ≤ 8) rfl rfl ⟨G16.1, Nat.le_of_ble_eq_true rfl⟩ H
