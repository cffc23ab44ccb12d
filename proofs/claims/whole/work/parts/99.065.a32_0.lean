/-! 134: StoneBacks.valley()I -/
set_option maxRecDepth 8000 in
theorem tr_134_0 {d : Nat} {h : mxH} {Q : mxO → mxH → Prop} {vn vd vr vq : Nat} (G : mxG h) (S : mxS h vn vd vr vq) (H : ((∃ T n, Tx h T n ∧ mx_i h 101 1 = nI n) ∧ (∀ (h3 : mxH), p88 h h3 → ((∀ (h8 : mxH), cpR 0 16 vd vn h3 h8 → (okX h8 vd ∧ (∀ (x13 : Int32) (h14 : mxH), p122 vd h8 x13 h14 → ((x13 = 0 → vp_in (mx_i h14 101 3) 401) ∧ (∀ h19, h19 = mx_wi (mx_wi h14 100 14 (if x13 = 0 then V_94 h14 else -1)) 101 1 0 → ((x13 = 0 → Q (.inr 0) (mx_ex h19)) ∧ (¬ x13 = 0 → (((mx_i h19 vn 8) < 12 → (∀ h26, h26 = mx_wi h19 vd 8 ((mx_i h19 vd 8) + 1) → (∀ h30, h30 = mx_wr h26 100 4 vd → (∀ h34, h34 = mx_wr h30 100 5 vn → (∀ h39, h39 = mx_wi h34 100 13 0 → Q (.inl (some (.int (mx_i h39 vd 8)))) h39))))) ∧ (¬ (mx_i h19 vn 8) < 12 → Q (.inr 1) (mx_ex h19)))))))))))))) : mx_wp (d + 7) 134 0 (mx_fr 134 [.ref 100]) [] h Q := by
  show mx_wp (d + 7) 134 0 [some (.ref 100), none, none] [] h Q
  refine wp_steps (i' := 2) (ls' := [some (.ref 100), none, none]) (st' := [.ref 101]) (h' := h) (P := ((mxT 100).1 = 10 ∧ mxG h) ∧ True) 2 rfl rfl ⟨⟨(congrArg Prod.fst sT_100), G⟩, trivial⟩ ?_
  obtain ⟨o1, H⟩ := H
  refine wp_call (b := false) (y' := 88) (as := [.ref 101]) (rest := []) (P := ((mxT 101).1 = mxRc 88 ∧ mxG h)) rfl (by with_unfolding_all rfl) ⟨(congrArg Prod.fst sT_101), G⟩ (Nat.le_of_ble_eq_true rfl) (sp_88 G o1 ?_)
  intro h3 p4
  show mx_wp (d + 7) 134 3 [some (.ref 100), none, none] [] h3 Q
  have H := H h3 p4
  have G5 : mxG h3 := agr_G p4.1.1 G
  have S6 := mxS_agr p4.1.1 S
  refine wp_steps (i' := 5) (ls' := [some (.ref 100), none, none]) (st' := [.ref (mx_r h3 100 5)]) (h' := h3) (P := ((mxT 100).1 = 10 ∧ mxG h3) ∧ True) 2 rfl rfl ⟨⟨(congrArg Prod.fst sT_100), G5⟩, trivial⟩ ?_
  rw [mxS_5 S6]
  refine wp_steps (i' := 7) (ls' := [some (.ref 100), none, none]) (st' := [.ref (mx_r h3 100 4), .ref vd]) (h' := h3) (P := ((mxT 100).1 = 10 ∧ mxG h3) ∧ True) 2 rfl rfl ⟨⟨(congrArg Prod.fst sT_100), G5⟩, trivial⟩ ?_
  rw [mxS_4 S6]
  refine wp_call (b := false) (y' := 103) (as := [.ref vd, .ref vn]) (rest := []) (P := ((mxT vd).1 = mxRc 103 ∧ mxG h3)) rfl (by with_unfolding_all rfl) ⟨(congrArg Prod.fst (sV_0 (mxS_vd S))), G5⟩ (Nat.le_of_ble_eq_true rfl) (sp_103 G5 (mxS_vd S) (mxS_vn S) ?_)
  intro h8 p9
  show mx_wp (d + 7) 134 8 [some (.ref 100), none, none] [] h8 Q
  have H := H h8 p9
  have G10 : mxG h8 := mxU_G p9.1 G5
  have S11 := mxS_of (mxU_r p9.1) S6
  refine wp_steps (i' := 12) (ls' := [some (.ref 100), none, none]) (st' := [.ref (mx_r h8 100 5), .ref 101]) (h' := h8) (P := ((mxT 100).1 = 10 ∧ mxG h8) ∧ ((mxT 100).1 = 10 ∧ mxG h8) ∧ True) 4 rfl rfl ⟨⟨(congrArg Prod.fst sT_100), G10⟩, ⟨(congrArg Prod.fst sT_100), G10⟩, trivial⟩ ?_
  rw [mxS_5 S11]
  obtain ⟨o12, H⟩ := H
  refine wp_call (b := false) (y' := 122) (as := [.ref 101, .ref vd]) (rest := []) (P := True) rfl (by with_unfolding_all rfl) trivial (Nat.le_of_ble_eq_true rfl) (sp_122 G10 (mxS_vd S) o12 ?_)
  intro x13 h14 p15
  show mx_wp (d + 7) 134 13 [some (.ref 100), none, none] [.int x13] h14 Q
  have H := H x13 h14 p15
  have G16 : mxG h14 := mxU_G p15.1.1 G10
  have S17 := mxS_of (mxU_r p15.1.1) S11
  refine wp_steps (i' := 16) (ls' := [some (.ref 100), some (.int x13), none]) (st' := [.int x13, .ref 100]) (h' := h14) (P := True) 3 rfl rfl trivial ?_
  obtain ⟨o18, H⟩ := H
  refine wp_call (b := false) (y' := 137) (as := [.ref 100, .int x13]) (rest := []) (P := ((mxT 100).1 = mxRc 137 ∧ mxG h14)) rfl (by with_unfolding_all rfl) ⟨(congrArg Prod.fst sT_100), G16⟩ (Nat.le_of_ble_eq_true rfl) (sp_137 G16 S17 o18 ?_)
  show mx_wp (d + 7) 134 17 [some (.ref 100), some (.int x13), none] [] (mx_wi (mx_wi h14 100 14 (if x13 = 0 then V_94 h14 else -1)) 101 1 0) Q
  obtain ⟨h19, e20⟩ : ∃ z9, z9 = mx_wi (mx_wi h14 100 14 (if x13 = 0 then V_94 h14 else -1)) 101 1 0 := ⟨_, rfl⟩
  rw [← e20]
  have H := H h19 e20
  have K22 : mxK h14 h19 := e20 ▸ (mxK_tr mxK_wi mxK_wi)
  have G21 : mxG h19 := mxK_G K22 G16
  have S23 := mxK_S K22 S17
  refine wp_steps (i' := 18) (ls' := [some (.ref 100), some (.int x13), none]) (st' := [.int x13]) (h' := h19) (P := True) 1 rfl rfl trivial ?_
  refine wp_br (P := True) (c := ¬ x13 = 0) (t := 24) (st' := []) rfl rfl trivial (fun c24 => ?_) (fun c24 => ?_)
  · skip
    have H := H.2 c24
    refine wp_steps (i' := 26) (ls' := [some (.ref 100), some (.int x13), none]) (st' := [.ref (mx_r h19 100 4)]) (h' := h19) (P := ((mxT 100).1 = 10 ∧ mxG h19) ∧ True) 2 rfl rfl ⟨⟨(congrArg Prod.fst sT_100), G21⟩, trivial⟩ ?_
    rw [mxS_4 S23]
    refine wp_steps (i' := 28) (ls' := [some (.ref 100), some (.int x13), none]) (st' := [.int 12, .int (mx_i h19 vn 8)]) (h' := h19) (P := ((mxT vn).1 = 9 ∧ mxG h19) ∧ True) 2 rfl rfl ⟨⟨(congrArg Prod.fst (sV_0 (mxS_vn S))), G21⟩, trivial⟩ ?_
    refine wp_br (P := True) (c := (mx_i h19 vn 8) < 12) (t := 34) (st' := []) rfl rfl trivial (fun c25 => ?_) (fun c25 => ?_)
    · skip
      have H := H.1 c25
      refine wp_steps (i' := 36) (ls' := [some (.ref 100), some (.int x13), none]) (st' := [.ref (mx_r h19 100 5)]) (h' := h19) (P := ((mxT 100).1 = 10 ∧ mxG h19) ∧ True) 2 rfl rfl ⟨⟨(congrArg Prod.fst sT_100), G21⟩, trivial⟩ ?_
      rw [mxS_5 S23]
      refine wp_steps (i' := 41) (ls' := [some (.ref 100), some (.int x13), none]) (st' := []) (h' := mx_wi h19 vd 8 ((mx_i h19 vd 8) + 1)) (P := ((mxT vd).1 = 9 ∧ mxG h19) ∧ ((mxT vd).1 = 9 ∧ mxG h19) ∧ True) 5 rfl rfl ⟨⟨(congrArg Prod.fst (sV_0 (mxS_vd S))), G21⟩, ⟨(congrArg Prod.fst (sV_0 (mxS_vd S))), G21⟩, trivial⟩ ?_
      obtain ⟨h26, e27⟩ : ∃ z9, z9 = mx_wi h19 vd 8 ((mx_i h19 vd 8) + 1) := ⟨_, rfl⟩
      rw [← e27]
      have H := H h26 e27
      have G28 : mxG h26 := e27 ▸ mxG_wi G21
      have S29 := e27 ▸ mxS_wi S23
      refine wp_steps (i' := 43) (ls' := [some (.ref 100), some (.int x13), none]) (st' := [.ref (mx_r h26 100 4)]) (h' := h26) (P := ((mxT 100).1 = 10 ∧ mxG h26) ∧ True) 2 rfl rfl ⟨⟨(congrArg Prod.fst sT_100), G28⟩, trivial⟩ ?_
      rw [mxS_4 S29]
      refine wp_steps (i' := 47) (ls' := [some (.ref 100), some (.int x13), some (.ref vn)]) (st' := [.ref (mx_r h26 100 5), .ref 100]) (h' := h26) (P := ((mxT 100).1 = 10 ∧ mxG h26) ∧ True) 4 rfl rfl ⟨⟨(congrArg Prod.fst sT_100), G28⟩, trivial⟩ ?_
      rw [mxS_5 S29]
      refine wp_steps (i' := 48) (ls' := [some (.ref 100), some (.int x13), some (.ref vn)]) (st' := []) (h' := mx_wr h26 100 4 vd) (P := ((mxT 100).1 = 10 ∧ mxG h26) ∧ True) 1 rfl rfl ⟨⟨(congrArg Prod.fst sT_100), G28⟩, trivial⟩ ?_
      obtain ⟨h30, e31⟩ : ∃ z9, z9 = mx_wr h26 100 4 vd := ⟨_, rfl⟩
      rw [← e31]
      have H := H h30 e31
      have G32 : mxG h30 := e31 ▸ mxG_wr_9_4 G28
      refine wp_steps (i' := 51) (ls' := [some (.ref 100), some (.int x13), some (.ref vn)]) (st' := []) (h' := mx_wr h30 100 5 vn) (P := ((mxT 100).1 = 10 ∧ mxG h30) ∧ True) 3 rfl rfl ⟨⟨(congrArg Prod.fst sT_100), G32⟩, trivial⟩ ?_
      obtain ⟨h34, e35⟩ : ∃ z9, z9 = mx_wr h30 100 5 vn := ⟨_, rfl⟩
      rw [← e35]
      have H := H h34 e35
      have G36 : mxG h34 := e35 ▸ mxG_wr_9_5 G32
      have S38 := mxS_sw45 e31 e35 S29
      refine wp_steps (i' := 52) (ls' := [some (.ref 100), some (.int x13), some (.ref vn)]) (st' := [.ref 100]) (h' := h34) (P := True) 1 rfl rfl trivial ?_
      refine wp_call (b := false) (y' := 183) (as := [.ref 100]) (rest := []) (P := ((mxT 100).1 = mxRc 183 ∧ mxG h34)) rfl (by with_unfolding_all rfl) ⟨(congrArg Prod.fst sT_100), G36⟩ (Nat.le_of_ble_eq_true rfl) (sp_183 G36 S38 ?_)
      show mx_wp (d + 7) 134 53 [some (.ref 100), some (.int x13), some (.ref vn)] [] (mx_wi h34 100 13 0) Q
      obtain ⟨h39, e40⟩ : ∃ z9, z9 = mx_wi h34 100 13 0 := ⟨_, rfl⟩
      rw [← e40]
      have H := H h39 e40
      have K42 : mxK h34 h39 := e40 ▸ mxK_wi
      have G41 : mxG h39 := mxK_G K42 G36
      have S43 := mxK_S K42 S38
      refine wp_steps (i' := 55) (ls' := [some (.ref 100), some (.int x13), some (.ref vn)]) (st' := [.ref (mx_r h39 100 4)]) (h' := h39) (P := ((mxT 100).1 = 10 ∧ mxG h39) ∧ True) 2 rfl rfl ⟨⟨(congrArg Prod.fst sT_100), G41⟩, trivial⟩ ?_
      rw [mxS_4 S43]
      refine wp_steps (i' := 56) (ls' := [some (.ref 100), some (.int x13), some (.ref vn)]) (st' := [.int (mx_i h39 vd 8)]) (h' := h39) (P := ((mxT vd).1 = 9 ∧ mxG h39) ∧ True) 1 rfl rfl ⟨⟨(congrArg Prod.fst (sV_0 (mxS_vd S))), G41⟩, trivial⟩ ?_
      exact wp_end (o := .inl (some (.int (mx_i h39 vd 8)))) (h' := h39) (P := True) rfl rfl trivial H
    · skip
      have H := H.2 c25
      exact wp_end (o := .inr 1) (h' := mx_ex h19) (P := mx_c h19 = 292 ∧ (([] : List Value).map mx_cat).sum ≤ 8) rfl rfl ⟨G21.1, Nat.le_of_ble_eq_true rfl⟩ H
  · have c24 := Decidable.of_not_not c24
    have H := H.1 c24
    exact wp_end (o := .inr 0) (h' := mx_ex h19) (P := mx_c h19 = 292 ∧ (([] : List Value).map mx_cat).sum ≤ 8) rfl rfl ⟨G21.1, Nat.le_of_ble_eq_true rfl⟩ H
/-! 224: StoneBacksModel.read(Z)I -/
set_option maxRecDepth 8000 in
theorem trn_224_0 {d : Nat} {h : mxH} {Q : mxO → mxH → Prop} {i1 : Int32} (G : mxG h)  (H : (okT2 h ∧ (∀ (h3 : mxH), (mxK h h3 ∧ psk2 h h3) → (∀ (v6 : Int32), v6 = ((if (mx_i h3 381 11) < (mx_i h3 381 10) then 1 else 0) : Int32) → H_224_13 (d + 32) h3 i1 v6 0 Q)))) : mx_wp (d + 32) 224 0 (mx_fr 224 [.ref 381, .int i1]) [] h Q := by
  show mx_wp (d + 32) 224 0 [some (.ref 381), some (.int i1), none, none] [] h Q
  refine wp_steps (i' := 1) (ls' := [some (.ref 381), some (.int i1), none, none]) (st' := [.ref 381]) (h' := h) (P := True) 1 rfl rfl trivial ?_
  obtain ⟨o1, H⟩ := H
  refine wp_call (b := false) (y' := 210) (as := [.ref 381]) (rest := []) (P := ((mxT 381).1 = mxRc 210 ∧ mxG h)) rfl (by with_unfolding_all rfl) ⟨(congrArg Prod.fst sT_381), G⟩ (Nat.le_of_ble_eq_true rfl) (sp_210b G o1 ?_)
  intro h3 p4
  show mx_wp (d + 32) 224 2 [some (.ref 381), some (.int i1), none, none] [] h3 Q
  have H := H h3 p4
  have G5 : mxG h3 := mxK_G p4.1 G
  refine wp_steps (i' := 6) (ls' := [some (.ref 381), some (.int i1), none, none]) (st' := [.int (mx_i h3 381 10), .int (mx_i h3 381 11)]) (h' := h3) (P := ((mxT 381).1 = 11 ∧ mxG h3) ∧ ((mxT 381).1 = 11 ∧ mxG h3) ∧ True) 4 rfl rfl ⟨⟨(congrArg Prod.fst sT_381), G5⟩, ⟨(congrArg Prod.fst sT_381), G5⟩, trivial⟩ ?_
  have J : ∀ (v6 : Int32) (ev6 : v6 = ((if (mx_i h3 381 11) < (mx_i h3 381 10) then 1 else 0) : Int32)), mx_wp (d + 32) 224 10 [some (.ref 381), some (.int i1), none, none] [.int v6] h3 Q := by
    intro v6 ev6
    have H := H v6 ev6
    refine wp_steps (i' := 13) (ls' := [some (.ref 381), some (.int i1), some (.int v6), some (.int 0)]) (st' := []) (h' := h3) (P := True) 3 rfl rfl trivial ?_
    exact H 
  refine wp_br (P := True) (c := (mx_i h3 381 10) ≤ (mx_i h3 381 11)) (t := 9) (st' := []) rfl rfl trivial (fun c7 => ?_) (fun c7 => ?_)
  · have c7 := Int32.not_lt.mpr c7
    refine wp_steps (i' := 10) (ls' := [some (.ref 381), some (.int i1), none, none]) (st' := [.int 0]) (h' := h3) (P := True) 1 rfl rfl trivial ?_
    exact J _ (by rw [if_neg c7])
  · have c7 := Int32.not_le.mp c7
    refine wp_steps (i' := 8) (ls' := [some (.ref 381), some (.int i1), none, none]) (st' := [.int 1]) (h' := h3) (P := True) 1 rfl rfl trivial ?_
    refine wp_J (j := 10) (st' := [.int 1]) rfl rfl ?_
    exact J _ (by rw [if_pos c7])
set_option maxRecDepth 8000 in
theorem trn_224_13 {d : Nat} {h : mxH} {Q : mxO → mxH → Prop}  {i1 : Int32} {i2 : Int32} {i3 : Int32} (G : mxG h)  (H : ((i2 = 0 → Q (.inl (some (.int i3))) h) ∧ (¬ i2 = 0 → (((mx_i h 381 12) = (-1) → (okT2 h ∧ (∀ (h5 : mxH), (mxK h h5 ∧ psk2 h h5) → (∀ (v8 : Int32), v8 = ((if i1 = 0 then 14 else 12) : Int32) → ((i3 = v8 → (∀ h67, h67 = W_213 h5 (mx_i h5 381 11) → (okT2 h67 ∧ (∀ (h73 : mxH), (mxK h67 h73 ∧ psk2 h67 h73) → (((mx_i h73 381 12) = (-1) → (((mx_i h73 381 11) = (mx_i h73 381 10) → H_224_13 (d + 32) h73 i1 0 (i3 + 1) Q) ∧ (¬ (mx_i h73 381 11) = (mx_i h73 381 10) → (okT h73 ∧ (∀ (x79 : Int32) (h80 : mxH), p211 (59 : Int32) h73 x79 h80 → ((x79 = 0 → (∀ h84, h84 = W_213 h80 (mx_i h80 381 11) → H_224_13 (d + 32) h84 i1 i2 (i3 + 1) Q)) ∧ (¬ x79 = 0 → (∀ h88, h88 = mx_wi h80 381 11 ((mx_i h80 381 11) + 1) → H_224_13 (d + 32) h88 i1 i2 (i3 + 1) Q)))))))) ∧ (¬ (mx_i h73 381 12) = (-1) → H_224_13 (d + 32) h73 i1 0 (i3 + 1) Q)))))) ∧ (¬ i3 = v8 → ((i1 = 0 → (okT h5 ∧ mx_i h5 381 12 = -1 ∧ cB (mx_i h5 382 3) 6 ∧ cB (mx_i h5 382 4) 10 ∧ (∀ (h16 : mxH), p221 h5 h16 → (okT2 h16 ∧ (∀ (h21 : mxH), (mxK h16 h21 ∧ psk2 h16 h21) → (((mx_i h21 381 12) = (-1) → (((mx_i h21 381 11) = (mx_i h21 381 10) → H_224_13 (d + 32) h21 i1 0 (i3 + 1) Q) ∧ (¬ (mx_i h21 381 11) = (mx_i h21 381 10) → (okT h21 ∧ (∀ (x27 : Int32) (h28 : mxH), p211 (59 : Int32) h21 x27 h28 → ((x27 = 0 → (∀ h32, h32 = W_213 h28 (mx_i h28 381 11) → H_224_13 (d + 32) h32 i1 i2 (i3 + 1) Q)) ∧ (¬ x27 = 0 → (∀ h36, h36 = mx_wi h28 381 11 ((mx_i h28 381 11) + 1) → H_224_13 (d + 32) h36 i1 i2 (i3 + 1) Q)))))))) ∧ (¬ (mx_i h21 381 12) = (-1) → H_224_13 (d + 32) h21 i1 0 (i3 + 1) Q))))))) ∧ (¬ i1 = 0 → (okT h5 ∧ mx_i h5 381 12 = -1 ∧ fc01 h5 ∧ mx_i h5 381 13 = 0 ∧ (∀ (h44 : mxH), p234 h5 h44 → (okT2 h44 ∧ (∀ (h49 : mxH), (mxK h44 h49 ∧ psk2 h44 h49) → (((mx_i h49 381 12) = (-1) → (((mx_i h49 381 11) = (mx_i h49 381 10) → H_224_13 (d + 32) h49 i1 0 (i3 + 1) Q) ∧ (¬ (mx_i h49 381 11) = (mx_i h49 381 10) → (okT h49 ∧ (∀ (x55 : Int32) (h56 : mxH), p211 (59 : Int32) h49 x55 h56 → ((x55 = 0 → (∀ h60, h60 = W_213 h56 (mx_i h56 381 11) → H_224_13 (d + 32) h60 i1 i2 (i3 + 1) Q)) ∧ (¬ x55 = 0 → (∀ h64, h64 = mx_wi h56 381 11 ((mx_i h56 381 11) + 1) → H_224_13 (d + 32) h64 i1 i2 (i3 + 1) Q)))))))) ∧ (¬ (mx_i h49 381 12) = (-1) → H_224_13 (d + 32) h49 i1 0 (i3 + 1) Q)))))))))))))) ∧ (¬ (mx_i h 381 12) = (-1) → Q (.inl (some (.int i3))) h))))) : H_224_13 (d + 32) h i1 i2 i3 Q := by
  show mx_wp (d + 32) 224 13 [some (.ref 381), some (.int i1), some (.int i2), some (.int i3)] [] h Q
  refine wp_steps (i' := 14) (ls' := [some (.ref 381), some (.int i1), some (.int i2), some (.int i3)]) (st' := [.int i2]) (h' := h) (P := True) 1 rfl rfl trivial ?_
  refine wp_br (P := True) (c := i2 = 0) (t := 71) (st' := []) rfl rfl trivial (fun c1 => ?_) (fun c1 => ?_)
  · skip
    have H := H.1 c1
    refine wp_steps (i' := 72) (ls' := [some (.ref 381), some (.int i1), some (.int i2), some (.int i3)]) (st' := [.int i3]) (h' := h) (P := True) 1 rfl rfl trivial ?_
    exact wp_end (o := .inl (some (.int i3))) (h' := h) (P := True) rfl rfl trivial H
  · skip
    have H := H.2 c1
    refine wp_steps (i' := 18) (ls' := [some (.ref 381), some (.int i1), some (.int i2), some (.int i3)]) (st' := [.int (-1), .int (mx_i h 381 12)]) (h' := h) (P := ((mxT 381).1 = 11 ∧ mxG h) ∧ True) 3 rfl rfl ⟨⟨(congrArg Prod.fst sT_381), G⟩, trivial⟩ ?_
    refine wp_br (P := True) (c := ¬ (mx_i h 381 12) = (-1)) (t := 71) (st' := []) rfl rfl trivial (fun c2 => ?_) (fun c2 => ?_)
    · skip
      have H := H.2 c2
      refine wp_steps (i' := 72) (ls' := [some (.ref 381), some (.int i1), some (.int i2), some (.int i3)]) (st' := [.int i3]) (h' := h) (P := True) 1 rfl rfl trivial ?_
      exact wp_end (o := .inl (some (.int i3))) (h' := h) (P := True) rfl rfl trivial H
    · have c2 := Decidable.of_not_not c2
      have H := H.1 c2
      refine wp_steps (i' := 20) (ls' := [some (.ref 381), some (.int i1), some (.int i2), some (.int i3)]) (st' := [.ref 381]) (h' := h) (P := True) 1 rfl rfl trivial ?_
      obtain ⟨o3, H⟩ := H
      refine wp_call (b := false) (y' := 210) (as := [.ref 381]) (rest := []) (P := ((mxT 381).1 = mxRc 210 ∧ mxG h)) rfl (by with_unfolding_all rfl) ⟨(congrArg Prod.fst sT_381), G⟩ (Nat.le_of_ble_eq_true rfl) (sp_210b G o3 ?_)
      intro h5 p6
      show mx_wp (d + 32) 224 21 [some (.ref 381), some (.int i1), some (.int i2), some (.int i3)] [] h5 Q
      have H := H h5 p6
      have G7 : mxG h5 := mxK_G p6.1 G
      refine wp_steps (i' := 23) (ls' := [some (.ref 381), some (.int i1), some (.int i2), some (.int i3)]) (st' := [.int i1, .int i3]) (h' := h5) (P := True) 2 rfl rfl trivial ?_
      have J : ∀ (v8 : Int32) (ev8 : v8 = ((if i1 = 0 then 14 else 12) : Int32)), mx_wp (d + 32) 224 27 [some (.ref 381), some (.int i1), some (.int i2), some (.int i3)] [.int v8, .int i3] h5 Q := by
        intro v8 ev8
        have H := H v8 ev8
        refine wp_br (P := True) (c := ¬ i3 = v8) (t := 33) (st' := []) rfl rfl trivial (fun c9 => ?_) (fun c9 => ?_)
        · skip
          have H := H.2 c9
          refine wp_steps (i' := 34) (ls' := [some (.ref 381), some (.int i1), some (.int i2), some (.int i3)]) (st' := [.int i1]) (h' := h5) (P := True) 1 rfl rfl trivial ?_
          refine wp_br (P := True) (c := i1 = 0) (t := 38) (st' := []) rfl rfl trivial (fun c10 => ?_) (fun c10 => ?_)
          · skip
            have H := H.1 c10
            refine wp_steps (i' := 39) (ls' := [some (.ref 381), some (.int i1), some (.int i2), some (.int i3)]) (st' := [.ref 381]) (h' := h5) (P := True) 1 rfl rfl trivial ?_
            obtain ⟨o11, o12, o13, o14, H⟩ := H
            refine wp_call (b := false) (y' := 221) (as := [.ref 381]) (rest := []) (P := ((mxT 381).1 = mxRc 221 ∧ mxG h5)) rfl (by with_unfolding_all rfl) ⟨(congrArg Prod.fst sT_381), G7⟩ (Nat.le_of_ble_eq_true rfl) (sp_221 G7 o11 o12 o13 o14 ?_)
            intro h16 p17
            show mx_wp (d + 32) 224 40 [some (.ref 381), some (.int i1), some (.int i2), some (.int i3)] [] h16 Q
            have H := H h16 p17
            have G18 : mxG h16 := mxK_G p17.1.1 G7
            refine wp_steps (i' := 42) (ls' := [some (.ref 381), some (.int i1), some (.int i2), some (.int (i3 + 1))]) (st' := [.ref 381]) (h' := h16) (P := True) 2 rfl rfl trivial ?_
            obtain ⟨o19, H⟩ := H
            refine wp_call (b := false) (y' := 210) (as := [.ref 381]) (rest := []) (P := ((mxT 381).1 = mxRc 210 ∧ mxG h16)) rfl (by with_unfolding_all rfl) ⟨(congrArg Prod.fst sT_381), G18⟩ (Nat.le_of_ble_eq_true rfl) (sp_210b G18 o19 ?_)
            intro h21 p22
            show mx_wp (d + 32) 224 43 [some (.ref 381), some (.int i1), some (.int i2), some (.int (i3 + 1))] [] h21 Q
            have H := H h21 p22
            have G23 : mxG h21 := mxK_G p22.1 G18
            refine wp_steps (i' := 46) (ls' := [some (.ref 381), some (.int i1), some (.int i2), some (.int (i3 + 1))]) (st' := [.int (-1), .int (mx_i h21 381 12)]) (h' := h21) (P := ((mxT 381).1 = 11 ∧ mxG h21) ∧ True) 3 rfl rfl ⟨⟨(congrArg Prod.fst sT_381), G23⟩, trivial⟩ ?_
            refine wp_br (P := True) (c := ¬ (mx_i h21 381 12) = (-1)) (t := 52) (st' := []) rfl rfl trivial (fun c24 => ?_) (fun c24 => ?_)
            · skip
              have H := H.2 c24
              refine wp_steps (i' := 54) (ls' := [some (.ref 381), some (.int i1), some (.int 0), some (.int (i3 + 1))]) (st' := []) (h' := h21) (P := True) 2 rfl rfl trivial ?_
              refine wp_J (j := 13) (st' := []) rfl rfl ?_
              exact H 
            · have c24 := Decidable.of_not_not c24
              have H := H.1 c24
              refine wp_steps (i' := 51) (ls' := [some (.ref 381), some (.int i1), some (.int i2), some (.int (i3 + 1))]) (st' := [.int (mx_i h21 381 10), .int (mx_i h21 381 11)]) (h' := h21) (P := ((mxT 381).1 = 11 ∧ mxG h21) ∧ ((mxT 381).1 = 11 ∧ mxG h21) ∧ True) 4 rfl rfl ⟨⟨(congrArg Prod.fst sT_381), G23⟩, ⟨(congrArg Prod.fst sT_381), G23⟩, trivial⟩ ?_
              refine wp_br (P := True) (c := ¬ (mx_i h21 381 11) = (mx_i h21 381 10)) (t := 55) (st' := []) rfl rfl trivial (fun c25 => ?_) (fun c25 => ?_)
              · skip
                have H := H.2 c25
                refine wp_steps (i' := 57) (ls' := [some (.ref 381), some (.int i1), some (.int i2), some (.int (i3 + 1))]) (st' := [.int 59, .ref 381]) (h' := h21) (P := True) 2 rfl rfl trivial ?_
                obtain ⟨o26, H⟩ := H
                refine wp_call (b := false) (y' := 211) (as := [.ref 381, .int 59]) (rest := []) (P := ((mxT 381).1 = mxRc 211 ∧ mxG h21)) rfl (by with_unfolding_all rfl) ⟨(congrArg Prod.fst sT_381), G23⟩ (Nat.le_of_ble_eq_true rfl) (sp_211 G23 o26 ?_)
                intro x27 h28 p29
                show mx_wp (d + 32) 224 58 [some (.ref 381), some (.int i1), some (.int i2), some (.int (i3 + 1))] [.int x27] h28 Q
                have H := H x27 h28 p29
                have G30 : mxG h28 := mxK_G p29.1 G23
                refine wp_br (P := True) (c := x27 = 0) (t := 66) (st' := []) rfl rfl trivial (fun c31 => ?_) (fun c31 => ?_)
                · skip
                  have H := H.1 c31
                  refine wp_steps (i' := 69) (ls' := [some (.ref 381), some (.int i1), some (.int i2), some (.int (i3 + 1))]) (st' := [.int (mx_i h28 381 11), .ref 381]) (h' := h28) (P := ((mxT 381).1 = 11 ∧ mxG h28) ∧ True) 3 rfl rfl ⟨⟨(congrArg Prod.fst sT_381), G30⟩, trivial⟩ ?_
                  refine wp_call (b := false) (y' := 213) (as := [.ref 381, .int (mx_i h28 381 11)]) (rest := []) (P := ((mxT 381).1 = mxRc 213 ∧ mxG h28)) rfl (by with_unfolding_all rfl) ⟨(congrArg Prod.fst sT_381), G30⟩ (Nat.le_of_ble_eq_true rfl) (sp_213 G30 ?_)
                  show mx_wp (d + 32) 224 70 [some (.ref 381), some (.int i1), some (.int i2), some (.int (i3 + 1))] [] (W_213 h28 (mx_i h28 381 11)) Q
                  obtain ⟨h32, e33⟩ : ∃ z9, z9 = W_213 h28 (mx_i h28 381 11) := ⟨_, rfl⟩
                  rw [← e33]
                  have H := H h32 e33
                  have K35 : mxK h28 h32 := e33 ▸ KW_213
                  have G34 : mxG h32 := mxK_G K35 G30
                  refine wp_J (j := 13) (st' := []) rfl rfl ?_
                  exact H 
                · skip
                  have H := H.2 c31
                  refine wp_steps (i' := 65) (ls' := [some (.ref 381), some (.int i1), some (.int i2), some (.int (i3 + 1))]) (st' := []) (h' := mx_wi h28 381 11 ((mx_i h28 381 11) + 1)) (P := ((mxT 381).1 = 11 ∧ mxG h28) ∧ ((mxT 381).1 = 11 ∧ mxG h28) ∧ True) 6 rfl rfl ⟨⟨(congrArg Prod.fst sT_381), G30⟩, ⟨(congrArg Prod.fst sT_381), G30⟩, trivial⟩ ?_
                  obtain ⟨h36, e37⟩ : ∃ z9, z9 = mx_wi h28 381 11 ((mx_i h28 381 11) + 1) := ⟨_, rfl⟩
                  rw [← e37]
                  have H := H h36 e37
                  have G38 : mxG h36 := e37 ▸ mxG_wi G30
                  refine wp_J (j := 13) (st' := []) rfl rfl ?_
                  exact H 
              · have c25 := Decidable.of_not_not c25
                have H := H.1 c25
                refine wp_steps (i' := 54) (ls' := [some (.ref 381), some (.int i1), some (.int 0), some (.int (i3 + 1))]) (st' := []) (h' := h21) (P := True) 2 rfl rfl trivial ?_
                refine wp_J (j := 13) (st' := []) rfl rfl ?_
                exact H 
          · skip
            have H := H.2 c10
            refine wp_steps (i' := 36) (ls' := [some (.ref 381), some (.int i1), some (.int i2), some (.int i3)]) (st' := [.ref 381]) (h' := h5) (P := True) 1 rfl rfl trivial ?_
            obtain ⟨o39, o40, o41, o42, H⟩ := H
            refine wp_call (b := false) (y' := 234) (as := [.ref 381]) (rest := []) (P := ((mxT 381).1 = mxRc 234 ∧ mxG h5)) rfl (by with_unfolding_all rfl) ⟨(congrArg Prod.fst sT_381), G7⟩ (Nat.le_of_ble_eq_true rfl) (sp_234 G7 o39 o40 o41 o42 ?_)
            intro h44 p45
            show mx_wp (d + 32) 224 37 [some (.ref 381), some (.int i1), some (.int i2), some (.int i3)] [] h44 Q
            have H := H h44 p45
            have G46 : mxG h44 := mxK_G p45.1.1 G7
            refine wp_J (j := 40) (st' := []) rfl rfl ?_
            refine wp_steps (i' := 42) (ls' := [some (.ref 381), some (.int i1), some (.int i2), some (.int (i3 + 1))]) (st' := [.ref 381]) (h' := h44) (P := True) 2 rfl rfl trivial ?_
            obtain ⟨o47, H⟩ := H
            refine wp_call (b := false) (y' := 210) (as := [.ref 381]) (rest := []) (P := ((mxT 381).1 = mxRc 210 ∧ mxG h44)) rfl (by with_unfolding_all rfl) ⟨(congrArg Prod.fst sT_381), G46⟩ (Nat.le_of_ble_eq_true rfl) (sp_210b G46 o47 ?_)
            intro h49 p50
            show mx_wp (d + 32) 224 43 [some (.ref 381), some (.int i1), some (.int i2), some (.int (i3 + 1))] [] h49 Q
            have H := H h49 p50
            have G51 : mxG h49 := mxK_G p50.1 G46
            refine wp_steps (i' := 46) (ls' := [some (.ref 381), some (.int i1), some (.int i2), some (.int (i3 + 1))]) (st' := [.int (-1), .int (mx_i h49 381 12)]) (h' := h49) (P := ((mxT 381).1 = 11 ∧ mxG h49) ∧ True) 3 rfl rfl ⟨⟨(congrArg Prod.fst sT_381), G51⟩, trivial⟩ ?_
            refine wp_br (P := True) (c := ¬ (mx_i h49 381 12) = (-1)) (t := 52) (st' := []) rfl rfl trivial (fun c52 => ?_) (fun c52 => ?_)
            · skip
              have H := H.2 c52
              refine wp_steps (i' := 54) (ls' := [some (.ref 381), some (.int i1), some (.int 0), some (.int (i3 + 1))]) (st' := []) (h' := h49) (P := True) 2 rfl rfl trivial ?_
              refine wp_J (j := 13) (st' := []) rfl rfl ?_
              exact H 
            · have c52 := Decidable.of_not_not c52
              have H := H.1 c52
              refine wp_steps (i' := 51) (ls' := [some (.ref 381), some (.int i1), some (.int i2), some (.int (i3 + 1))]) (st' := [.int (mx_i h49 381 10), .int (mx_i h49 381 11)]) (h' := h49) (P := ((mxT 381).1 = 11 ∧ mxG h49) ∧ ((mxT 381).1 = 11 ∧ mxG h49) ∧ True) 4 rfl rfl ⟨⟨(congrArg Prod.fst sT_381), G51⟩, ⟨(congrArg Prod.fst sT_381), G51⟩, trivial⟩ ?_
              refine wp_br (P := True) (c := ¬ (mx_i h49 381 11) = (mx_i h49 381 10)) (t := 55) (st' := []) rfl rfl trivial (fun c53 => ?_) (fun c53 => ?_)
              · skip
                have H := H.2 c53
                refine wp_steps (i' := 57) (ls' := [some (.ref 381), some (.int i1), some (.int i2), some (.int (i3 + 1))]) (st' := [.int 59, .ref 381]) (h' := h49) (P := True) 2 rfl rfl trivial ?_
                obtain ⟨o54, H⟩ := H
                refine wp_call (b := false) (y' := 211) (as := [.ref 381, .int 59]) (rest := []) (P := ((mxT 381).1 = mxRc 211 ∧ mxG h49)) rfl (by with_unfolding_all rfl) ⟨(congrArg Prod.fst sT_381), G51⟩ (Nat.le_of_ble_eq_true rfl) (sp_211 G51 o54 ?_)
                intro x55 h56 p57
                show mx_wp (d + 32) 224 58 [some (.ref 381), some (.int i1), some (.int i2), some (.int (i3 + 1))] [.int x55] h56 Q
                have H := H x55 h56 p57
                have G58 : mxG h56 := mxK_G p57.1 G51
                refine wp_br (P := True) (c := x55 = 0) (t := 66) (st' := []) rfl rfl trivial (fun c59 => ?_) (fun c59 => ?_)
                · skip
                  have H := H.1 c59
                  refine wp_steps (i' := 69) (ls' := [some (.ref 381), some (.int i1), some (.int i2), some (.int (i3 + 1))]) (st' := [.int (mx_i h56 381 11), .ref 381]) (h' := h56) (P := ((mxT 381).1 = 11 ∧ mxG h56) ∧ True) 3 rfl rfl ⟨⟨(congrArg Prod.fst sT_381), G58⟩, trivial⟩ ?_
                  refine wp_call (b := false) (y' := 213) (as := [.ref 381, .int (mx_i h56 381 11)]) (rest := []) (P := ((mxT 381).1 = mxRc 213 ∧ mxG h56)) rfl (by with_unfolding_all rfl) ⟨(congrArg Prod.fst sT_381), G58⟩ (Nat.le_of_ble_eq_true rfl) (sp_213 G58 ?_)
                  show mx_wp (d + 32) 224 70 [some (.ref 381), some (.int i1), some (.int i2), some (.int (i3 + 1))] [] (W_213 h56 (mx_i h56 381 11)) Q
                  obtain ⟨h60, e61⟩ : ∃ z9, z9 = W_213 h56 (mx_i h56 381 11) := ⟨_, rfl⟩
                  rw [← e61]
                  have H := H h60 e61
                  have K63 : mxK h56 h60 := e61 ▸ KW_213
                  have G62 : mxG h60 := mxK_G K63 G58
                  refine wp_J (j := 13) (st' := []) rfl rfl ?_
                  exact H 
                · skip
                  have H := H.2 c59
                  refine wp_steps (i' := 65) (ls' := [some (.ref 381), some (.int i1), some (.int i2), some (.int (i3 + 1))]) (st' := []) (h' := mx_wi h56 381 11 ((mx_i h56 381 11) + 1)) (P := ((mxT 381).1 = 11 ∧ mxG h56) ∧ ((mxT 381).1 = 11 ∧ mxG h56) ∧ True) 6 rfl rfl ⟨⟨(congrArg Prod.fst sT_381), G58⟩, ⟨(congrArg Prod.fst sT_381), G58⟩, trivial⟩ ?_
                  obtain ⟨h64, e65⟩ : ∃ z9, z9 = mx_wi h56 381 11 ((mx_i h56 381 11) + 1) := ⟨_, rfl⟩
                  rw [← e65]
                  have H := H h64 e65
                  have G66 : mxG h64 := e65 ▸ mxG_wi G58
                  refine wp_J (j := 13) (st' := []) rfl rfl ?_
                  exact H 
              · have c53 := Decidable.of_not_not c53
                have H := H.1 c53
                refine wp_steps (i' := 54) (ls' := [some (.ref 381), some (.int i1), some (.int 0), some (.int (i3 + 1))]) (st' := []) (h' := h49) (P := True) 2 rfl rfl trivial ?_
                refine wp_J (j := 13) (st' := []) rfl rfl ?_
                exact H 
        · have c9 := Decidable.of_not_not c9
          have H := H.1 c9
          refine wp_steps (i' := 31) (ls' := [some (.ref 381), some (.int i1), some (.int i2), some (.int i3)]) (st' := [.int (mx_i h5 381 11), .ref 381]) (h' := h5) (P := ((mxT 381).1 = 11 ∧ mxG h5) ∧ True) 3 rfl rfl ⟨⟨(congrArg Prod.fst sT_381), G7⟩, trivial⟩ ?_
          refine wp_call (b := false) (y' := 213) (as := [.ref 381, .int (mx_i h5 381 11)]) (rest := []) (P := ((mxT 381).1 = mxRc 213 ∧ mxG h5)) rfl (by with_unfolding_all rfl) ⟨(congrArg Prod.fst sT_381), G7⟩ (Nat.le_of_ble_eq_true rfl) (sp_213 G7 ?_)
          show mx_wp (d + 32) 224 32 [some (.ref 381), some (.int i1), some (.int i2), some (.int i3)] [] (W_213 h5 (mx_i h5 381 11)) Q
          obtain ⟨h67, e68⟩ : ∃ z9, z9 = W_213 h5 (mx_i h5 381 11) := ⟨_, rfl⟩
          rw [← e68]
          have H := H h67 e68
          have K70 : mxK h5 h67 := e68 ▸ KW_213
          have G69 : mxG h67 := mxK_G K70 G7
          refine wp_J (j := 40) (st' := []) rfl rfl ?_
          refine wp_steps (i' := 42) (ls' := [some (.ref 381), some (.int i1), some (.int i2), some (.int (i3 + 1))]) (st' := [.ref 381]) (h' := h67) (P := True) 2 rfl rfl trivial ?_
          obtain ⟨o71, H⟩ := H
          refine wp_call (b := false) (y' := 210) (as := [.ref 381]) (rest := []) (P := ((mxT 381).1 = mxRc 210 ∧ mxG h67)) rfl (by with_unfolding_all rfl) ⟨(congrArg Prod.fst sT_381), G69⟩ (Nat.le_of_ble_eq_true rfl) (sp_210b G69 o71 ?_)
          intro h73 p74
          show mx_wp (d + 32) 224 43 [some (.ref 381), some (.int i1), some (.int i2), some (.int (i3 + 1))] [] h73 Q
          have H := H h73 p74
          have G75 : mxG h73 := mxK_G p74.1 G69
          refine wp_steps (i' := 46) (ls' := [some (.ref 381), some (.int i1), some (.int i2), some (.int (i3 + 1))]) (st' := [.int (-1), .int (mx_i h73 381 12)]) (h' := h73) (P := ((mxT 381).1 = 11 ∧ mxG h73) ∧ True) 3 rfl rfl ⟨⟨(congrArg Prod.fst sT_381), G75⟩, trivial⟩ ?_
          refine wp_br (P := True) (c := ¬ (mx_i h73 381 12) = (-1)) (t := 52) (st' := []) rfl rfl trivial (fun c76 => ?_) (fun c76 => ?_)
          · skip
            have H := H.2 c76
            refine wp_steps (i' := 54) (ls' := [some (.ref 381), some (.int i1), some (.int 0), some (.int (i3 + 1))]) (st' := []) (h' := h73) (P := True) 2 rfl rfl trivial ?_
            refine wp_J (j := 13) (st' := []) rfl rfl ?_
            exact H 
          · have c76 := Decidable.of_not_not c76
            have H := H.1 c76
            refine wp_steps (i' := 51) (ls' := [some (.ref 381), some (.int i1), some (.int i2), some (.int (i3 + 1))]) (st' := [.int (mx_i h73 381 10), .int (mx_i h73 381 11)]) (h' := h73) (P := ((mxT 381).1 = 11 ∧ mxG h73) ∧ ((mxT 381).1 = 11 ∧ mxG h73) ∧ True) 4 rfl rfl ⟨⟨(congrArg Prod.fst sT_381), G75⟩, ⟨(congrArg Prod.fst sT_381), G75⟩, trivial⟩ ?_
            refine wp_br (P := True) (c := ¬ (mx_i h73 381 11) = (mx_i h73 381 10)) (t := 55) (st' := []) rfl rfl trivial (fun c77 => ?_) (fun c77 => ?_)
            · skip
              have H := H.2 c77
              refine wp_steps (i' := 57) (ls' := [some (.ref 381), some (.int i1), some (.int i2), some (.int (i3 + 1))]) (st' := [.int 59, .ref 381]) (h' := h73) (P := True) 2 rfl rfl trivial ?_
              obtain ⟨o78, H⟩ := H
              refine wp_call (b := false) (y' := 211) (as := [.ref 381, .int 59]) (rest := []) (P := ((mxT 381).1 = mxRc 211 ∧ mxG h73)) rfl (by with_unfolding_all rfl) ⟨(congrArg Prod.fst sT_381), G75⟩ (Nat.le_of_ble_eq_true rfl) (sp_211 G75 o78 ?_)
              intro x79 h80 p81
              show mx_wp (d + 32) 224 58 [some (.ref 381), some (.int i1), some (.int i2), some (.int (i3 + 1))] [.int x79] h80 Q
              have H := H x79 h80 p81
              have G82 : mxG h80 := mxK_G p81.1 G75
              refine wp_br (P := True) (c := x79 = 0) (t := 66) (st' := []) rfl rfl trivial (fun c83 => ?_) (fun c83 => ?_)
              · skip
                have H := H.1 c83
                refine wp_steps (i' := 69) (ls' := [some (.ref 381), some (.int i1), some (.int i2), some (.int (i3 + 1))]) (st' := [.int (mx_i h80 381 11), .ref 381]) (h' := h80) (P := ((mxT 381).1 = 11 ∧ mxG h80) ∧ True) 3 rfl rfl ⟨⟨(congrArg Prod.fst sT_381), G82⟩, trivial⟩ ?_
                refine wp_call (b := false) (y' := 213) (as := [.ref 381, .int (mx_i h80 381 11)]) (rest := []) (P := ((mxT 381).1 = mxRc 213 ∧ mxG h80)) rfl (by with_unfolding_all rfl) ⟨(congrArg Prod.fst sT_381), G82⟩ (Nat.le_of_ble_eq_true rfl) (sp_213 G82 ?_)
                show mx_wp (d + 32) 224 70 [some (.ref 381), some (.int i1), some (.int i2), some (.int (i3 + 1))] [] (W_213 h80 (mx_i h80 381 11)) Q
                obtain ⟨h84, e85⟩ : ∃ z9, z9 = W_213 h80 (mx_i h80 381 11) := ⟨_, rfl⟩
                rw [← e85]
                have H := H h84 e85
                have K87 : mxK h80 h84 := e85 ▸ KW_213
                have G86 : mxG h84 := mxK_G K87 G82
                refine wp_J (j := 13) (st' := []) rfl rfl ?_
                exact H 
              · skip
                have H := H.2 c83
                refine wp_steps (i' := 65) (ls' := [some (.ref 381), some (.int i1), some (.int i2), some (.int (i3 + 1))]) (st' := []) (h' := mx_wi h80 381 11 ((mx_i h80 381 11) + 1)) (P := ((mxT 381).1 = 11 ∧ mxG h80) ∧ ((mxT 381).1 = 11 ∧ mxG h80) ∧ True) 6 rfl rfl ⟨⟨(congrArg Prod.fst sT_381), G82⟩, ⟨(congrArg Prod.fst sT_381), G82⟩, trivial⟩ ?_
                obtain ⟨h88, e89⟩ : ∃ z9, z9 = mx_wi h80 381 11 ((mx_i h80 381 11) + 1) := ⟨_, rfl⟩
                rw [← e89]
                have H := H h88 e89
                have G90 : mxG h88 := e89 ▸ mxG_wi G82
                refine wp_J (j := 13) (st' := []) rfl rfl ?_
                exact H 
            · have c77 := Decidable.of_not_not c77
              have H := H.1 c77
              refine wp_steps (i' := 54) (ls' := [some (.ref 381), some (.int i1), some (.int 0), some (.int (i3 + 1))]) (st' := []) (h' := h73) (P := True) 2 rfl rfl trivial ?_
              refine wp_J (j := 13) (st' := []) rfl rfl ?_
              exact H 
      refine wp_br (P := True) (c := i1 = 0) (t := 26) (st' := [.int i3]) rfl rfl trivial (fun c91 => ?_) (fun c91 => ?_)
      · skip
        refine wp_steps (i' := 27) (ls' := [some (.ref 381), some (.int i1), some (.int i2), some (.int i3)]) (st' := [.int 14, .int i3]) (h' := h5) (P := True) 1 rfl rfl trivial ?_
        exact J _ (by rw [if_pos c91])
      · skip
        refine wp_steps (i' := 25) (ls' := [some (.ref 381), some (.int i1), some (.int i2), some (.int i3)]) (st' := [.int 12, .int i3]) (h' := h5) (P := True) 1 rfl rfl trivial ?_
        refine wp_J (j := 27) (st' := [.int 12, .int i3]) rfl rfl ?_
        exact J _ (by rw [if_neg c91])
