/-! trees of atom, every, some: the specs of what they call are hypotheses -/
/-! 231: StoneBacksModel.atom()Z -/
set_option maxRecDepth 8000 in
theorem tr_231_0 {d : Nat} {ev : Nat} {h : mxH} {Q : mxO → mxH → Prop}  (hs_231 : ∀ {h : mxH} {Q : mxO → mxH → Prop}, mxG h → okA ev h → (∀ (x : Int32) (h1 : mxH), pA 0 h x h1 → Q (.inl (some (.int x))) h1) → mx_wp (d + 7) 231 0 (mx_fr 231 [.ref 381]) [] h Q) (hs_233 : ∀ {h : mxH} {Q : mxO → mxH → Prop}, mxG h → okA ev h → (∀ (x : Int32) (h1 : mxH), pA 3 h x h1 → Q (.inl (some (.int x))) h1) → mx_wp (d + 7) 233 0 (mx_fr 233 [.ref 381]) [] h Q) (G : mxG h)  (H : (((mx_i h 381 12) = (-1) → (okT h ∧ (∀ (x3 : Int32) (h4 : mxH), p214 h x3 h4 → (okT h4 ∧ (30 ≤ 62 ∧ 62 < 82 ∧ 62 % 2 = 0) ∧ (∀ (x9 : Int32) (h10 : mxH), p212 62 h4 x9 h10 → ((x9 = 0 → (okT h10 ∧ (∀ (x74 : Int32) (h75 : mxH), p211 (40 : Int32) h10 x74 h75 → ((x74 = 0 → (okT h75 ∧ mx_i h75 381 12 = -1 ∧ fc01 h75 ∧ (∀ (x141 : Int32) (h142 : mxH), p230 h75 x141 h142 → ((x141 = 0 ∨ x141 = 1) ∧ Q (.inl (some (.int x141))) h142)))) ∧ (¬ x74 = 0 → (((mx_i h75 381 13) = 6 → (∀ h134, h134 = W_213 h75 x3 → Q (.inl (some (.int 0))) h134)) ∧ (¬ (mx_i h75 381 13) = 6 → (∀ h80, h80 = mx_wi h75 381 13 ((mx_i h75 381 13) + 1) → ((x9 = 0 → (∀ h84, h84 = mx_wi h80 381 11 ((mx_i h80 381 11) + 1) → (okA ev h84 ∧ (∀ (x88 : Int32) (h89 : mxH), pA 3 h84 x88 h89 → (((mx_i h89 381 12) = (-1) → (okT h89 ∧ (∀ (x101 : Int32) (h102 : mxH), p211 (41 : Int32) h89 x101 h102 → ((x101 = 0 → (∀ h113, h113 = W_213 h102 (mx_i h102 381 11) → (∀ h117, h117 = mx_wi h113 381 11 ((mx_i h113 381 11) + 1) → (∀ h120, h120 = mx_wi h117 381 13 ((mx_i h117 381 13) - 1) → ((x88 = 0 ∨ x88 = 1) ∧ Q (.inl (some (.int x88))) h120))))) ∧ (¬ x101 = 0 → (∀ h106, h106 = mx_wi h102 381 11 ((mx_i h102 381 11) + 1) → (∀ h109, h109 = mx_wi h106 381 13 ((mx_i h106 381 13) - 1) → ((x88 = 0 ∨ x88 = 1) ∧ Q (.inl (some (.int x88))) h109)))))))) ∧ (¬ (mx_i h89 381 12) = (-1) → (∀ h93, h93 = mx_wi h89 381 11 ((mx_i h89 381 11) + 1) → (∀ h96, h96 = mx_wi h93 381 13 ((mx_i h93 381 13) - 1) → ((x88 = 0 ∨ x88 = 1) ∧ Q (.inl (some (.int x88))) h96))))))))) ∧ (¬ x9 = 0 → (okA ev h80 ∧ (∀ (x125 : Int32) (h126 : mxH), pA 0 h80 x125 h126 → (∀ (v129 : Int32), v129 = ((if x125 = 0 then 1 else 0) : Int32) → (∀ h130, h130 = mx_wi h126 381 13 ((mx_i h126 381 13) - 1) → Q (.inl (some (.int v129))) h130)))))))))))))) ∧ (¬ x9 = 0 → (((mx_i h10 381 13) = 6 → (∀ h69, h69 = W_213 h10 x3 → Q (.inl (some (.int 0))) h69)) ∧ (¬ (mx_i h10 381 13) = 6 → (∀ h15, h15 = mx_wi h10 381 13 ((mx_i h10 381 13) + 1) → ((x9 = 0 → (∀ h19, h19 = mx_wi h15 381 11 ((mx_i h15 381 11) + 1) → (okA ev h19 ∧ (∀ (x23 : Int32) (h24 : mxH), pA 3 h19 x23 h24 → (((mx_i h24 381 12) = (-1) → (okT h24 ∧ (∀ (x36 : Int32) (h37 : mxH), p211 (41 : Int32) h24 x36 h37 → ((x36 = 0 → (∀ h48, h48 = W_213 h37 (mx_i h37 381 11) → (∀ h52, h52 = mx_wi h48 381 11 ((mx_i h48 381 11) + 1) → (∀ h55, h55 = mx_wi h52 381 13 ((mx_i h52 381 13) - 1) → ((x23 = 0 ∨ x23 = 1) ∧ Q (.inl (some (.int x23))) h55))))) ∧ (¬ x36 = 0 → (∀ h41, h41 = mx_wi h37 381 11 ((mx_i h37 381 11) + 1) → (∀ h44, h44 = mx_wi h41 381 13 ((mx_i h41 381 13) - 1) → ((x23 = 0 ∨ x23 = 1) ∧ Q (.inl (some (.int x23))) h44)))))))) ∧ (¬ (mx_i h24 381 12) = (-1) → (∀ h28, h28 = mx_wi h24 381 11 ((mx_i h24 381 11) + 1) → (∀ h31, h31 = mx_wi h28 381 13 ((mx_i h28 381 13) - 1) → ((x23 = 0 ∨ x23 = 1) ∧ Q (.inl (some (.int x23))) h31))))))))) ∧ (¬ x9 = 0 → (okA ev h15 ∧ (∀ (x60 : Int32) (h61 : mxH), pA 0 h15 x60 h61 → (∀ (v64 : Int32), v64 = ((if x60 = 0 then 1 else 0) : Int32) → (∀ h65, h65 = mx_wi h61 381 13 ((mx_i h61 381 13) - 1) → Q (.inl (some (.int v64))) h65)))))))))))))))) ∧ (¬ (mx_i h 381 12) = (-1) → Q (.inl (some (.int 0))) h))) : mx_wp (d + 8) 231 0 (mx_fr 231 [.ref 381]) [] h Q := by
  show mx_wp (d + 8) 231 0 [some (.ref 381), none, none, none] [] h Q
  refine wp_steps (i' := 3) (ls' := [some (.ref 381), none, none, none]) (st' := [.int (-1), .int (mx_i h 381 12)]) (h' := h) (P := ((mxT 381).1 = 11 ∧ mxG h) ∧ True) 3 rfl rfl ⟨⟨(congrArg Prod.fst sT_381), G⟩, trivial⟩ ?_
  refine wp_br (P := True) (c := (mx_i h 381 12) = (-1)) (t := 6) (st' := []) rfl rfl trivial (fun c1 => ?_) (fun c1 => ?_)
  · skip
    have H := H.1 c1
    refine wp_steps (i' := 7) (ls' := [some (.ref 381), none, none, none]) (st' := [.ref 381]) (h' := h) (P := True) 1 rfl rfl trivial ?_
    obtain ⟨o2, H⟩ := H
    refine wp_call (b := false) (y' := 214) (as := [.ref 381]) (rest := []) (P := ((mxT 381).1 = mxRc 214 ∧ mxG h)) rfl (by with_unfolding_all rfl) ⟨(congrArg Prod.fst sT_381), G⟩ (Nat.le_of_ble_eq_true rfl) (sp_214 G o2 ?_)
    intro x3 h4 p5
    show mx_wp (d + 8) 231 8 [some (.ref 381), none, none, none] [.int x3] h4 Q
    have H := H x3 h4 p5
    have G6 : mxG h4 := mxK_G p5.1 G
    refine wp_steps (i' := 11) (ls' := [some (.ref 381), some (.int x3), none, none]) (st' := [.ref 62, .ref 381]) (h' := h4) (P := True) 3 rfl rfl trivial ?_
    obtain ⟨o7, o8, H⟩ := H
    refine wp_call (b := false) (y' := 212) (as := [.ref 381, .ref 62]) (rest := []) (P := ((mxT 381).1 = mxRc 212 ∧ mxG h4)) rfl (by with_unfolding_all rfl) ⟨(congrArg Prod.fst sT_381), G6⟩ (Nat.le_of_ble_eq_true rfl) (sp_212 G6 o7 o8 ?_)
    intro x9 h10 p11
    show mx_wp (d + 8) 231 12 [some (.ref 381), some (.int x3), none, none] [.int x9] h10 Q
    have H := H x9 h10 p11
    have G12 : mxG h10 := mxK_G p11.1 G6
    refine wp_steps (i' := 14) (ls' := [some (.ref 381), some (.int x3), some (.int x9), none]) (st' := [.int x9]) (h' := h10) (P := True) 2 rfl rfl trivial ?_
    refine wp_br (P := True) (c := ¬ x9 = 0) (t := 22) (st' := []) rfl rfl trivial (fun c13 => ?_) (fun c13 => ?_)
    · skip
      have H := H.2 c13
      refine wp_steps (i' := 25) (ls' := [some (.ref 381), some (.int x3), some (.int x9), none]) (st' := [.int 6, .int (mx_i h10 381 13)]) (h' := h10) (P := ((mxT 381).1 = 11 ∧ mxG h10) ∧ True) 3 rfl rfl ⟨⟨(congrArg Prod.fst sT_381), G12⟩, trivial⟩ ?_
      refine wp_br (P := True) (c := ¬ (mx_i h10 381 13) = 6) (t := 31) (st' := []) rfl rfl trivial (fun c14 => ?_) (fun c14 => ?_)
      · skip
        have H := H.2 c14
        refine wp_steps (i' := 37) (ls' := [some (.ref 381), some (.int x3), some (.int x9), none]) (st' := []) (h' := mx_wi h10 381 13 ((mx_i h10 381 13) + 1)) (P := ((mxT 381).1 = 11 ∧ mxG h10) ∧ ((mxT 381).1 = 11 ∧ mxG h10) ∧ True) 6 rfl rfl ⟨⟨(congrArg Prod.fst sT_381), G12⟩, ⟨(congrArg Prod.fst sT_381), G12⟩, trivial⟩ ?_
        obtain ⟨h15, e16⟩ : ∃ z9, z9 = mx_wi h10 381 13 ((mx_i h10 381 13) + 1) := ⟨_, rfl⟩
        rw [← e16]
        have H := H h15 e16
        have G17 : mxG h15 := e16 ▸ mxG_wi G12
        refine wp_steps (i' := 40) (ls' := [some (.ref 381), some (.int x3), some (.int x9), some (.int 0)]) (st' := [.int x9]) (h' := h15) (P := True) 3 rfl rfl trivial ?_
        refine wp_br (P := True) (c := x9 = 0) (t := 49) (st' := []) rfl rfl trivial (fun c18 => ?_) (fun c18 => ?_)
        · skip
          have H := H.1 c18
          refine wp_steps (i' := 55) (ls' := [some (.ref 381), some (.int x3), some (.int x9), some (.int 0)]) (st' := []) (h' := mx_wi h15 381 11 ((mx_i h15 381 11) + 1)) (P := ((mxT 381).1 = 11 ∧ mxG h15) ∧ ((mxT 381).1 = 11 ∧ mxG h15) ∧ True) 6 rfl rfl ⟨⟨(congrArg Prod.fst sT_381), G17⟩, ⟨(congrArg Prod.fst sT_381), G17⟩, trivial⟩ ?_
          obtain ⟨h19, e20⟩ : ∃ z9, z9 = mx_wi h15 381 11 ((mx_i h15 381 11) + 1) := ⟨_, rfl⟩
          rw [← e20]
          have H := H h19 e20
          have G21 : mxG h19 := e20 ▸ mxG_wi G17
          refine wp_steps (i' := 56) (ls' := [some (.ref 381), some (.int x3), some (.int x9), some (.int 0)]) (st' := [.ref 381]) (h' := h19) (P := True) 1 rfl rfl trivial ?_
          obtain ⟨o22, H⟩ := H
          refine wp_call (b := false) (y' := 233) (as := [.ref 381]) (rest := []) (P := ((mxT 381).1 = mxRc 233 ∧ mxG h19)) rfl (by with_unfolding_all rfl) ⟨(congrArg Prod.fst sT_381), G21⟩ (Nat.le_of_ble_eq_true rfl) (hs_233 G21 o22 ?_)
          intro x23 h24 p25
          show mx_wp (d + 8) 231 57 [some (.ref 381), some (.int x3), some (.int x9), some (.int 0)] [.int x23] h24 Q
          have H := H x23 h24 p25
          have G26 : mxG h24 := mxK_G p25.1 G21
          refine wp_steps (i' := 61) (ls' := [some (.ref 381), some (.int x3), some (.int x9), some (.int x23)]) (st' := [.int (-1), .int (mx_i h24 381 12)]) (h' := h24) (P := ((mxT 381).1 = 11 ∧ mxG h24) ∧ True) 4 rfl rfl ⟨⟨(congrArg Prod.fst sT_381), G26⟩, trivial⟩ ?_
          refine wp_br (P := True) (c := ¬ (mx_i h24 381 12) = (-1)) (t := 70) (st' := []) rfl rfl trivial (fun c27 => ?_) (fun c27 => ?_)
          · skip
            have H := H.2 c27
            refine wp_steps (i' := 76) (ls' := [some (.ref 381), some (.int x3), some (.int x9), some (.int x23)]) (st' := []) (h' := mx_wi h24 381 11 ((mx_i h24 381 11) + 1)) (P := ((mxT 381).1 = 11 ∧ mxG h24) ∧ ((mxT 381).1 = 11 ∧ mxG h24) ∧ True) 6 rfl rfl ⟨⟨(congrArg Prod.fst sT_381), G26⟩, ⟨(congrArg Prod.fst sT_381), G26⟩, trivial⟩ ?_
            obtain ⟨h28, e29⟩ : ∃ z9, z9 = mx_wi h24 381 11 ((mx_i h24 381 11) + 1) := ⟨_, rfl⟩
            rw [← e29]
            have H := H h28 e29
            have G30 : mxG h28 := e29 ▸ mxG_wi G26
            refine wp_steps (i' := 82) (ls' := [some (.ref 381), some (.int x3), some (.int x9), some (.int x23)]) (st' := []) (h' := mx_wi h28 381 13 ((mx_i h28 381 13) - 1)) (P := ((mxT 381).1 = 11 ∧ mxG h28) ∧ ((mxT 381).1 = 11 ∧ mxG h28) ∧ True) 6 rfl rfl ⟨⟨(congrArg Prod.fst sT_381), G30⟩, ⟨(congrArg Prod.fst sT_381), G30⟩, trivial⟩ ?_
            obtain ⟨h31, e32⟩ : ∃ z9, z9 = mx_wi h28 381 13 ((mx_i h28 381 13) - 1) := ⟨_, rfl⟩
            rw [← e32]
            have H := H h31 e32
            have G33 : mxG h31 := e32 ▸ mxG_wi G30
            refine wp_steps (i' := 83) (ls' := [some (.ref 381), some (.int x3), some (.int x9), some (.int x23)]) (st' := [.int x23]) (h' := h31) (P := True) 1 rfl rfl trivial ?_
            obtain ⟨o34, H⟩ := H
            exact wp_end (o := .inl (some (.int x23))) (h' := h31) (P := (x23 = 0 ∨ x23 = 1)) rfl rfl o34 H
          · have c27 := Decidable.of_not_not c27
            have H := H.1 c27
            refine wp_steps (i' := 64) (ls' := [some (.ref 381), some (.int x3), some (.int x9), some (.int x23)]) (st' := [.int 41, .ref 381]) (h' := h24) (P := True) 2 rfl rfl trivial ?_
            obtain ⟨o35, H⟩ := H
            refine wp_call (b := false) (y' := 211) (as := [.ref 381, .int 41]) (rest := []) (P := ((mxT 381).1 = mxRc 211 ∧ mxG h24)) rfl (by with_unfolding_all rfl) ⟨(congrArg Prod.fst sT_381), G26⟩ (Nat.le_of_ble_eq_true rfl) (sp_211 G26 o35 ?_)
            intro x36 h37 p38
            show mx_wp (d + 8) 231 65 [some (.ref 381), some (.int x3), some (.int x9), some (.int x23)] [.int x36] h37 Q
            have H := H x36 h37 p38
            have G39 : mxG h37 := mxK_G p38.1 G26
            refine wp_br (P := True) (c := ¬ x36 = 0) (t := 70) (st' := []) rfl rfl trivial (fun c40 => ?_) (fun c40 => ?_)
            · skip
              have H := H.2 c40
              refine wp_steps (i' := 76) (ls' := [some (.ref 381), some (.int x3), some (.int x9), some (.int x23)]) (st' := []) (h' := mx_wi h37 381 11 ((mx_i h37 381 11) + 1)) (P := ((mxT 381).1 = 11 ∧ mxG h37) ∧ ((mxT 381).1 = 11 ∧ mxG h37) ∧ True) 6 rfl rfl ⟨⟨(congrArg Prod.fst sT_381), G39⟩, ⟨(congrArg Prod.fst sT_381), G39⟩, trivial⟩ ?_
              obtain ⟨h41, e42⟩ : ∃ z9, z9 = mx_wi h37 381 11 ((mx_i h37 381 11) + 1) := ⟨_, rfl⟩
              rw [← e42]
              have H := H h41 e42
              have G43 : mxG h41 := e42 ▸ mxG_wi G39
              refine wp_steps (i' := 82) (ls' := [some (.ref 381), some (.int x3), some (.int x9), some (.int x23)]) (st' := []) (h' := mx_wi h41 381 13 ((mx_i h41 381 13) - 1)) (P := ((mxT 381).1 = 11 ∧ mxG h41) ∧ ((mxT 381).1 = 11 ∧ mxG h41) ∧ True) 6 rfl rfl ⟨⟨(congrArg Prod.fst sT_381), G43⟩, ⟨(congrArg Prod.fst sT_381), G43⟩, trivial⟩ ?_
              obtain ⟨h44, e45⟩ : ∃ z9, z9 = mx_wi h41 381 13 ((mx_i h41 381 13) - 1) := ⟨_, rfl⟩
              rw [← e45]
              have H := H h44 e45
              have G46 : mxG h44 := e45 ▸ mxG_wi G43
              refine wp_steps (i' := 83) (ls' := [some (.ref 381), some (.int x3), some (.int x9), some (.int x23)]) (st' := [.int x23]) (h' := h44) (P := True) 1 rfl rfl trivial ?_
              obtain ⟨o47, H⟩ := H
              exact wp_end (o := .inl (some (.int x23))) (h' := h44) (P := (x23 = 0 ∨ x23 = 1)) rfl rfl o47 H
            · have c40 := Decidable.of_not_not c40
              have H := H.1 c40
              refine wp_steps (i' := 69) (ls' := [some (.ref 381), some (.int x3), some (.int x9), some (.int x23)]) (st' := [.int (mx_i h37 381 11), .ref 381]) (h' := h37) (P := ((mxT 381).1 = 11 ∧ mxG h37) ∧ True) 3 rfl rfl ⟨⟨(congrArg Prod.fst sT_381), G39⟩, trivial⟩ ?_
              refine wp_call (b := false) (y' := 213) (as := [.ref 381, .int (mx_i h37 381 11)]) (rest := []) (P := ((mxT 381).1 = mxRc 213 ∧ mxG h37)) rfl (by with_unfolding_all rfl) ⟨(congrArg Prod.fst sT_381), G39⟩ (Nat.le_of_ble_eq_true rfl) (sp_213 G39 ?_)
              show mx_wp (d + 8) 231 70 [some (.ref 381), some (.int x3), some (.int x9), some (.int x23)] [] (W_213 h37 (mx_i h37 381 11)) Q
              obtain ⟨h48, e49⟩ : ∃ z9, z9 = W_213 h37 (mx_i h37 381 11) := ⟨_, rfl⟩
              rw [← e49]
              have H := H h48 e49
              have K51 : mxK h37 h48 := e49 ▸ KW_213
              have G50 : mxG h48 := mxK_G K51 G39
              refine wp_steps (i' := 76) (ls' := [some (.ref 381), some (.int x3), some (.int x9), some (.int x23)]) (st' := []) (h' := mx_wi h48 381 11 ((mx_i h48 381 11) + 1)) (P := ((mxT 381).1 = 11 ∧ mxG h48) ∧ ((mxT 381).1 = 11 ∧ mxG h48) ∧ True) 6 rfl rfl ⟨⟨(congrArg Prod.fst sT_381), G50⟩, ⟨(congrArg Prod.fst sT_381), G50⟩, trivial⟩ ?_
              obtain ⟨h52, e53⟩ : ∃ z9, z9 = mx_wi h48 381 11 ((mx_i h48 381 11) + 1) := ⟨_, rfl⟩
              rw [← e53]
              have H := H h52 e53
              have G54 : mxG h52 := e53 ▸ mxG_wi G50
              refine wp_steps (i' := 82) (ls' := [some (.ref 381), some (.int x3), some (.int x9), some (.int x23)]) (st' := []) (h' := mx_wi h52 381 13 ((mx_i h52 381 13) - 1)) (P := ((mxT 381).1 = 11 ∧ mxG h52) ∧ ((mxT 381).1 = 11 ∧ mxG h52) ∧ True) 6 rfl rfl ⟨⟨(congrArg Prod.fst sT_381), G54⟩, ⟨(congrArg Prod.fst sT_381), G54⟩, trivial⟩ ?_
              obtain ⟨h55, e56⟩ : ∃ z9, z9 = mx_wi h52 381 13 ((mx_i h52 381 13) - 1) := ⟨_, rfl⟩
              rw [← e56]
              have H := H h55 e56
              have G57 : mxG h55 := e56 ▸ mxG_wi G54
              refine wp_steps (i' := 83) (ls' := [some (.ref 381), some (.int x3), some (.int x9), some (.int x23)]) (st' := [.int x23]) (h' := h55) (P := True) 1 rfl rfl trivial ?_
              obtain ⟨o58, H⟩ := H
              exact wp_end (o := .inl (some (.int x23))) (h' := h55) (P := (x23 = 0 ∨ x23 = 1)) rfl rfl o58 H
        · skip
          have H := H.2 c18
          refine wp_steps (i' := 42) (ls' := [some (.ref 381), some (.int x3), some (.int x9), some (.int 0)]) (st' := [.ref 381]) (h' := h15) (P := True) 1 rfl rfl trivial ?_
          obtain ⟨o59, H⟩ := H
          refine wp_call (b := false) (y' := 231) (as := [.ref 381]) (rest := []) (P := ((mxT 381).1 = mxRc 231 ∧ mxG h15)) rfl (by with_unfolding_all rfl) ⟨(congrArg Prod.fst sT_381), G17⟩ (Nat.le_of_ble_eq_true rfl) (hs_231 G17 o59 ?_)
          intro x60 h61 p62
          show mx_wp (d + 8) 231 43 [some (.ref 381), some (.int x3), some (.int x9), some (.int 0)] [.int x60] h61 Q
          have H := H x60 h61 p62
          have G63 : mxG h61 := mxK_G p62.1 G17
          have J : ∀ (v64 : Int32) (ev64 : v64 = ((if x60 = 0 then 1 else 0) : Int32)), mx_wp (d + 8) 231 47 [some (.ref 381), some (.int x3), some (.int x9), some (.int 0)] [.int v64] h61 Q := by
            intro v64 ev64
            have H := H v64 ev64
            refine wp_steps (i' := 48) (ls' := [some (.ref 381), some (.int x3), some (.int x9), some (.int v64)]) (st' := []) (h' := h61) (P := True) 1 rfl rfl trivial ?_
            refine wp_J (j := 76) (st' := []) rfl rfl ?_
            refine wp_steps (i' := 82) (ls' := [some (.ref 381), some (.int x3), some (.int x9), some (.int v64)]) (st' := []) (h' := mx_wi h61 381 13 ((mx_i h61 381 13) - 1)) (P := ((mxT 381).1 = 11 ∧ mxG h61) ∧ ((mxT 381).1 = 11 ∧ mxG h61) ∧ True) 6 rfl rfl ⟨⟨(congrArg Prod.fst sT_381), G63⟩, ⟨(congrArg Prod.fst sT_381), G63⟩, trivial⟩ ?_
            obtain ⟨h65, e66⟩ : ∃ z9, z9 = mx_wi h61 381 13 ((mx_i h61 381 13) - 1) := ⟨_, rfl⟩
            rw [← e66]
            have H := H h65 e66
            have G67 : mxG h65 := e66 ▸ mxG_wi G63
            refine wp_steps (i' := 83) (ls' := [some (.ref 381), some (.int x3), some (.int x9), some (.int v64)]) (st' := [.int v64]) (h' := h65) (P := True) 1 rfl rfl trivial ?_
            exact wp_end (o := .inl (some (.int v64))) (h' := h65) (P := (v64 = 0 ∨ v64 = 1)) rfl rfl (b01 ev64 (by repeat' (first | exact Or.inl rfl | exact Or.inr rfl | split))) H
          refine wp_br (P := True) (c := ¬ x60 = 0) (t := 46) (st' := []) rfl rfl trivial (fun c68 => ?_) (fun c68 => ?_)
          · skip
            refine wp_steps (i' := 47) (ls' := [some (.ref 381), some (.int x3), some (.int x9), some (.int 0)]) (st' := [.int 0]) (h' := h61) (P := True) 1 rfl rfl trivial ?_
            exact J _ (by rw [if_neg c68])
          · have c68 := Decidable.of_not_not c68
            refine wp_steps (i' := 45) (ls' := [some (.ref 381), some (.int x3), some (.int x9), some (.int 0)]) (st' := [.int 1]) (h' := h61) (P := True) 1 rfl rfl trivial ?_
            refine wp_J (j := 47) (st' := [.int 1]) rfl rfl ?_
            exact J _ (by rw [if_pos c68])
      · have c14 := Decidable.of_not_not c14
        have H := H.1 c14
        refine wp_steps (i' := 28) (ls' := [some (.ref 381), some (.int x3), some (.int x9), none]) (st' := [.int x3, .ref 381]) (h' := h10) (P := True) 2 rfl rfl trivial ?_
        refine wp_call (b := false) (y' := 213) (as := [.ref 381, .int x3]) (rest := []) (P := ((mxT 381).1 = mxRc 213 ∧ mxG h10)) rfl (by with_unfolding_all rfl) ⟨(congrArg Prod.fst sT_381), G12⟩ (Nat.le_of_ble_eq_true rfl) (sp_213 G12 ?_)
        show mx_wp (d + 8) 231 29 [some (.ref 381), some (.int x3), some (.int x9), none] [] (W_213 h10 x3) Q
        obtain ⟨h69, e70⟩ : ∃ z9, z9 = W_213 h10 x3 := ⟨_, rfl⟩
        rw [← e70]
        have H := H h69 e70
        have K72 : mxK h10 h69 := e70 ▸ KW_213
        have G71 : mxG h69 := mxK_G K72 G12
        refine wp_steps (i' := 30) (ls' := [some (.ref 381), some (.int x3), some (.int x9), none]) (st' := [.int 0]) (h' := h69) (P := True) 1 rfl rfl trivial ?_
        exact wp_end (o := .inl (some (.int 0))) (h' := h69) (P := ((0 : Int32) = 0 ∨ (0 : Int32) = 1)) rfl rfl (Or.inl rfl) H
    · have c13 := Decidable.of_not_not c13
      have H := H.1 c13
      refine wp_steps (i' := 17) (ls' := [some (.ref 381), some (.int x3), some (.int x9), none]) (st' := [.int 40, .ref 381]) (h' := h10) (P := True) 2 rfl rfl trivial ?_
      obtain ⟨o73, H⟩ := H
      refine wp_call (b := false) (y' := 211) (as := [.ref 381, .int 40]) (rest := []) (P := ((mxT 381).1 = mxRc 211 ∧ mxG h10)) rfl (by with_unfolding_all rfl) ⟨(congrArg Prod.fst sT_381), G12⟩ (Nat.le_of_ble_eq_true rfl) (sp_211 G12 o73 ?_)
      intro x74 h75 p76
      show mx_wp (d + 8) 231 18 [some (.ref 381), some (.int x3), some (.int x9), none] [.int x74] h75 Q
      have H := H x74 h75 p76
      have G77 : mxG h75 := mxK_G p76.1 G12
      refine wp_br (P := True) (c := ¬ x74 = 0) (t := 22) (st' := []) rfl rfl trivial (fun c78 => ?_) (fun c78 => ?_)
      · skip
        have H := H.2 c78
        refine wp_steps (i' := 25) (ls' := [some (.ref 381), some (.int x3), some (.int x9), none]) (st' := [.int 6, .int (mx_i h75 381 13)]) (h' := h75) (P := ((mxT 381).1 = 11 ∧ mxG h75) ∧ True) 3 rfl rfl ⟨⟨(congrArg Prod.fst sT_381), G77⟩, trivial⟩ ?_
        refine wp_br (P := True) (c := ¬ (mx_i h75 381 13) = 6) (t := 31) (st' := []) rfl rfl trivial (fun c79 => ?_) (fun c79 => ?_)
        · skip
          have H := H.2 c79
          refine wp_steps (i' := 37) (ls' := [some (.ref 381), some (.int x3), some (.int x9), none]) (st' := []) (h' := mx_wi h75 381 13 ((mx_i h75 381 13) + 1)) (P := ((mxT 381).1 = 11 ∧ mxG h75) ∧ ((mxT 381).1 = 11 ∧ mxG h75) ∧ True) 6 rfl rfl ⟨⟨(congrArg Prod.fst sT_381), G77⟩, ⟨(congrArg Prod.fst sT_381), G77⟩, trivial⟩ ?_
          obtain ⟨h80, e81⟩ : ∃ z9, z9 = mx_wi h75 381 13 ((mx_i h75 381 13) + 1) := ⟨_, rfl⟩
          rw [← e81]
          have H := H h80 e81
          have G82 : mxG h80 := e81 ▸ mxG_wi G77
          refine wp_steps (i' := 40) (ls' := [some (.ref 381), some (.int x3), some (.int x9), some (.int 0)]) (st' := [.int x9]) (h' := h80) (P := True) 3 rfl rfl trivial ?_
          refine wp_br (P := True) (c := x9 = 0) (t := 49) (st' := []) rfl rfl trivial (fun c83 => ?_) (fun c83 => ?_)
          · skip
            have H := H.1 c83
            refine wp_steps (i' := 55) (ls' := [some (.ref 381), some (.int x3), some (.int x9), some (.int 0)]) (st' := []) (h' := mx_wi h80 381 11 ((mx_i h80 381 11) + 1)) (P := ((mxT 381).1 = 11 ∧ mxG h80) ∧ ((mxT 381).1 = 11 ∧ mxG h80) ∧ True) 6 rfl rfl ⟨⟨(congrArg Prod.fst sT_381), G82⟩, ⟨(congrArg Prod.fst sT_381), G82⟩, trivial⟩ ?_
            obtain ⟨h84, e85⟩ : ∃ z9, z9 = mx_wi h80 381 11 ((mx_i h80 381 11) + 1) := ⟨_, rfl⟩
            rw [← e85]
            have H := H h84 e85
            have G86 : mxG h84 := e85 ▸ mxG_wi G82
            refine wp_steps (i' := 56) (ls' := [some (.ref 381), some (.int x3), some (.int x9), some (.int 0)]) (st' := [.ref 381]) (h' := h84) (P := True) 1 rfl rfl trivial ?_
            obtain ⟨o87, H⟩ := H
            refine wp_call (b := false) (y' := 233) (as := [.ref 381]) (rest := []) (P := ((mxT 381).1 = mxRc 233 ∧ mxG h84)) rfl (by with_unfolding_all rfl) ⟨(congrArg Prod.fst sT_381), G86⟩ (Nat.le_of_ble_eq_true rfl) (hs_233 G86 o87 ?_)
            intro x88 h89 p90
            show mx_wp (d + 8) 231 57 [some (.ref 381), some (.int x3), some (.int x9), some (.int 0)] [.int x88] h89 Q
            have H := H x88 h89 p90
            have G91 : mxG h89 := mxK_G p90.1 G86
            refine wp_steps (i' := 61) (ls' := [some (.ref 381), some (.int x3), some (.int x9), some (.int x88)]) (st' := [.int (-1), .int (mx_i h89 381 12)]) (h' := h89) (P := ((mxT 381).1 = 11 ∧ mxG h89) ∧ True) 4 rfl rfl ⟨⟨(congrArg Prod.fst sT_381), G91⟩, trivial⟩ ?_
            refine wp_br (P := True) (c := ¬ (mx_i h89 381 12) = (-1)) (t := 70) (st' := []) rfl rfl trivial (fun c92 => ?_) (fun c92 => ?_)
            · skip
              have H := H.2 c92
              refine wp_steps (i' := 76) (ls' := [some (.ref 381), some (.int x3), some (.int x9), some (.int x88)]) (st' := []) (h' := mx_wi h89 381 11 ((mx_i h89 381 11) + 1)) (P := ((mxT 381).1 = 11 ∧ mxG h89) ∧ ((mxT 381).1 = 11 ∧ mxG h89) ∧ True) 6 rfl rfl ⟨⟨(congrArg Prod.fst sT_381), G91⟩, ⟨(congrArg Prod.fst sT_381), G91⟩, trivial⟩ ?_
              obtain ⟨h93, e94⟩ : ∃ z9, z9 = mx_wi h89 381 11 ((mx_i h89 381 11) + 1) := ⟨_, rfl⟩
              rw [← e94]
              have H := H h93 e94
              have G95 : mxG h93 := e94 ▸ mxG_wi G91
              refine wp_steps (i' := 82) (ls' := [some (.ref 381), some (.int x3), some (.int x9), some (.int x88)]) (st' := []) (h' := mx_wi h93 381 13 ((mx_i h93 381 13) - 1)) (P := ((mxT 381).1 = 11 ∧ mxG h93) ∧ ((mxT 381).1 = 11 ∧ mxG h93) ∧ True) 6 rfl rfl ⟨⟨(congrArg Prod.fst sT_381), G95⟩, ⟨(congrArg Prod.fst sT_381), G95⟩, trivial⟩ ?_
              obtain ⟨h96, e97⟩ : ∃ z9, z9 = mx_wi h93 381 13 ((mx_i h93 381 13) - 1) := ⟨_, rfl⟩
              rw [← e97]
              have H := H h96 e97
              have G98 : mxG h96 := e97 ▸ mxG_wi G95
              refine wp_steps (i' := 83) (ls' := [some (.ref 381), some (.int x3), some (.int x9), some (.int x88)]) (st' := [.int x88]) (h' := h96) (P := True) 1 rfl rfl trivial ?_
              obtain ⟨o99, H⟩ := H
              exact wp_end (o := .inl (some (.int x88))) (h' := h96) (P := (x88 = 0 ∨ x88 = 1)) rfl rfl o99 H
            · have c92 := Decidable.of_not_not c92
              have H := H.1 c92
              refine wp_steps (i' := 64) (ls' := [some (.ref 381), some (.int x3), some (.int x9), some (.int x88)]) (st' := [.int 41, .ref 381]) (h' := h89) (P := True) 2 rfl rfl trivial ?_
              obtain ⟨o100, H⟩ := H
              refine wp_call (b := false) (y' := 211) (as := [.ref 381, .int 41]) (rest := []) (P := ((mxT 381).1 = mxRc 211 ∧ mxG h89)) rfl (by with_unfolding_all rfl) ⟨(congrArg Prod.fst sT_381), G91⟩ (Nat.le_of_ble_eq_true rfl) (sp_211 G91 o100 ?_)
              intro x101 h102 p103
              show mx_wp (d + 8) 231 65 [some (.ref 381), some (.int x3), some (.int x9), some (.int x88)] [.int x101] h102 Q
              have H := H x101 h102 p103
              have G104 : mxG h102 := mxK_G p103.1 G91
              refine wp_br (P := True) (c := ¬ x101 = 0) (t := 70) (st' := []) rfl rfl trivial (fun c105 => ?_) (fun c105 => ?_)
              · skip
                have H := H.2 c105
                refine wp_steps (i' := 76) (ls' := [some (.ref 381), some (.int x3), some (.int x9), some (.int x88)]) (st' := []) (h' := mx_wi h102 381 11 ((mx_i h102 381 11) + 1)) (P := ((mxT 381).1 = 11 ∧ mxG h102) ∧ ((mxT 381).1 = 11 ∧ mxG h102) ∧ True) 6 rfl rfl ⟨⟨(congrArg Prod.fst sT_381), G104⟩, ⟨(congrArg Prod.fst sT_381), G104⟩, trivial⟩ ?_
                obtain ⟨h106, e107⟩ : ∃ z9, z9 = mx_wi h102 381 11 ((mx_i h102 381 11) + 1) := ⟨_, rfl⟩
                rw [← e107]
                have H := H h106 e107
                have G108 : mxG h106 := e107 ▸ mxG_wi G104
                refine wp_steps (i' := 82) (ls' := [some (.ref 381), some (.int x3), some (.int x9), some (.int x88)]) (st' := []) (h' := mx_wi h106 381 13 ((mx_i h106 381 13) - 1)) (P := ((mxT 381).1 = 11 ∧ mxG h106) ∧ ((mxT 381).1 = 11 ∧ mxG h106) ∧ True) 6 rfl rfl ⟨⟨(congrArg Prod.fst sT_381), G108⟩, ⟨(congrArg Prod.fst sT_381), G108⟩, trivial⟩ ?_
                obtain ⟨h109, e110⟩ : ∃ z9, z9 = mx_wi h106 381 13 ((mx_i h106 381 13) - 1) := ⟨_, rfl⟩
                rw [← e110]
                have H := H h109 e110
                have G111 : mxG h109 := e110 ▸ mxG_wi G108
                refine wp_steps (i' := 83) (ls' := [some (.ref 381), some (.int x3), some (.int x9), some (.int x88)]) (st' := [.int x88]) (h' := h109) (P := True) 1 rfl rfl trivial ?_
                obtain ⟨o112, H⟩ := H
                exact wp_end (o := .inl (some (.int x88))) (h' := h109) (P := (x88 = 0 ∨ x88 = 1)) rfl rfl o112 H
              · have c105 := Decidable.of_not_not c105
                have H := H.1 c105
                refine wp_steps (i' := 69) (ls' := [some (.ref 381), some (.int x3), some (.int x9), some (.int x88)]) (st' := [.int (mx_i h102 381 11), .ref 381]) (h' := h102) (P := ((mxT 381).1 = 11 ∧ mxG h102) ∧ True) 3 rfl rfl ⟨⟨(congrArg Prod.fst sT_381), G104⟩, trivial⟩ ?_
                refine wp_call (b := false) (y' := 213) (as := [.ref 381, .int (mx_i h102 381 11)]) (rest := []) (P := ((mxT 381).1 = mxRc 213 ∧ mxG h102)) rfl (by with_unfolding_all rfl) ⟨(congrArg Prod.fst sT_381), G104⟩ (Nat.le_of_ble_eq_true rfl) (sp_213 G104 ?_)
                show mx_wp (d + 8) 231 70 [some (.ref 381), some (.int x3), some (.int x9), some (.int x88)] [] (W_213 h102 (mx_i h102 381 11)) Q
                obtain ⟨h113, e114⟩ : ∃ z9, z9 = W_213 h102 (mx_i h102 381 11) := ⟨_, rfl⟩
                rw [← e114]
                have H := H h113 e114
                have K116 : mxK h102 h113 := e114 ▸ KW_213
                have G115 : mxG h113 := mxK_G K116 G104
                refine wp_steps (i' := 76) (ls' := [some (.ref 381), some (.int x3), some (.int x9), some (.int x88)]) (st' := []) (h' := mx_wi h113 381 11 ((mx_i h113 381 11) + 1)) (P := ((mxT 381).1 = 11 ∧ mxG h113) ∧ ((mxT 381).1 = 11 ∧ mxG h113) ∧ True) 6 rfl rfl ⟨⟨(congrArg Prod.fst sT_381), G115⟩, ⟨(congrArg Prod.fst sT_381), G115⟩, trivial⟩ ?_
                obtain ⟨h117, e118⟩ : ∃ z9, z9 = mx_wi h113 381 11 ((mx_i h113 381 11) + 1) := ⟨_, rfl⟩
                rw [← e118]
                have H := H h117 e118
                have G119 : mxG h117 := e118 ▸ mxG_wi G115
                refine wp_steps (i' := 82) (ls' := [some (.ref 381), some (.int x3), some (.int x9), some (.int x88)]) (st' := []) (h' := mx_wi h117 381 13 ((mx_i h117 381 13) - 1)) (P := ((mxT 381).1 = 11 ∧ mxG h117) ∧ ((mxT 381).1 = 11 ∧ mxG h117) ∧ True) 6 rfl rfl ⟨⟨(congrArg Prod.fst sT_381), G119⟩, ⟨(congrArg Prod.fst sT_381), G119⟩, trivial⟩ ?_
                obtain ⟨h120, e121⟩ : ∃ z9, z9 = mx_wi h117 381 13 ((mx_i h117 381 13) - 1) := ⟨_, rfl⟩
                rw [← e121]
                have H := H h120 e121
                have G122 : mxG h120 := e121 ▸ mxG_wi G119
                refine wp_steps (i' := 83) (ls' := [some (.ref 381), some (.int x3), some (.int x9), some (.int x88)]) (st' := [.int x88]) (h' := h120) (P := True) 1 rfl rfl trivial ?_
                obtain ⟨o123, H⟩ := H
                exact wp_end (o := .inl (some (.int x88))) (h' := h120) (P := (x88 = 0 ∨ x88 = 1)) rfl rfl o123 H
          · skip
            have H := H.2 c83
            refine wp_steps (i' := 42) (ls' := [some (.ref 381), some (.int x3), some (.int x9), some (.int 0)]) (st' := [.ref 381]) (h' := h80) (P := True) 1 rfl rfl trivial ?_
            obtain ⟨o124, H⟩ := H
            refine wp_call (b := false) (y' := 231) (as := [.ref 381]) (rest := []) (P := ((mxT 381).1 = mxRc 231 ∧ mxG h80)) rfl (by with_unfolding_all rfl) ⟨(congrArg Prod.fst sT_381), G82⟩ (Nat.le_of_ble_eq_true rfl) (hs_231 G82 o124 ?_)
            intro x125 h126 p127
            show mx_wp (d + 8) 231 43 [some (.ref 381), some (.int x3), some (.int x9), some (.int 0)] [.int x125] h126 Q
            have H := H x125 h126 p127
            have G128 : mxG h126 := mxK_G p127.1 G82
            have J : ∀ (v129 : Int32) (ev129 : v129 = ((if x125 = 0 then 1 else 0) : Int32)), mx_wp (d + 8) 231 47 [some (.ref 381), some (.int x3), some (.int x9), some (.int 0)] [.int v129] h126 Q := by
              intro v129 ev129
              have H := H v129 ev129
              refine wp_steps (i' := 48) (ls' := [some (.ref 381), some (.int x3), some (.int x9), some (.int v129)]) (st' := []) (h' := h126) (P := True) 1 rfl rfl trivial ?_
              refine wp_J (j := 76) (st' := []) rfl rfl ?_
              refine wp_steps (i' := 82) (ls' := [some (.ref 381), some (.int x3), some (.int x9), some (.int v129)]) (st' := []) (h' := mx_wi h126 381 13 ((mx_i h126 381 13) - 1)) (P := ((mxT 381).1 = 11 ∧ mxG h126) ∧ ((mxT 381).1 = 11 ∧ mxG h126) ∧ True) 6 rfl rfl ⟨⟨(congrArg Prod.fst sT_381), G128⟩, ⟨(congrArg Prod.fst sT_381), G128⟩, trivial⟩ ?_
              obtain ⟨h130, e131⟩ : ∃ z9, z9 = mx_wi h126 381 13 ((mx_i h126 381 13) - 1) := ⟨_, rfl⟩
              rw [← e131]
              have H := H h130 e131
              have G132 : mxG h130 := e131 ▸ mxG_wi G128
              refine wp_steps (i' := 83) (ls' := [some (.ref 381), some (.int x3), some (.int x9), some (.int v129)]) (st' := [.int v129]) (h' := h130) (P := True) 1 rfl rfl trivial ?_
              exact wp_end (o := .inl (some (.int v129))) (h' := h130) (P := (v129 = 0 ∨ v129 = 1)) rfl rfl (b01 ev129 (by repeat' (first | exact Or.inl rfl | exact Or.inr rfl | split))) H
            refine wp_br (P := True) (c := ¬ x125 = 0) (t := 46) (st' := []) rfl rfl trivial (fun c133 => ?_) (fun c133 => ?_)
            · skip
              refine wp_steps (i' := 47) (ls' := [some (.ref 381), some (.int x3), some (.int x9), some (.int 0)]) (st' := [.int 0]) (h' := h126) (P := True) 1 rfl rfl trivial ?_
              exact J _ (by rw [if_neg c133])
            · have c133 := Decidable.of_not_not c133
              refine wp_steps (i' := 45) (ls' := [some (.ref 381), some (.int x3), some (.int x9), some (.int 0)]) (st' := [.int 1]) (h' := h126) (P := True) 1 rfl rfl trivial ?_
              refine wp_J (j := 47) (st' := [.int 1]) rfl rfl ?_
              exact J _ (by rw [if_pos c133])
        · have c79 := Decidable.of_not_not c79
          have H := H.1 c79
          refine wp_steps (i' := 28) (ls' := [some (.ref 381), some (.int x3), some (.int x9), none]) (st' := [.int x3, .ref 381]) (h' := h75) (P := True) 2 rfl rfl trivial ?_
          refine wp_call (b := false) (y' := 213) (as := [.ref 381, .int x3]) (rest := []) (P := ((mxT 381).1 = mxRc 213 ∧ mxG h75)) rfl (by with_unfolding_all rfl) ⟨(congrArg Prod.fst sT_381), G77⟩ (Nat.le_of_ble_eq_true rfl) (sp_213 G77 ?_)
          show mx_wp (d + 8) 231 29 [some (.ref 381), some (.int x3), some (.int x9), none] [] (W_213 h75 x3) Q
          obtain ⟨h134, e135⟩ : ∃ z9, z9 = W_213 h75 x3 := ⟨_, rfl⟩
          rw [← e135]
          have H := H h134 e135
          have K137 : mxK h75 h134 := e135 ▸ KW_213
          have G136 : mxG h134 := mxK_G K137 G77
          refine wp_steps (i' := 30) (ls' := [some (.ref 381), some (.int x3), some (.int x9), none]) (st' := [.int 0]) (h' := h134) (P := True) 1 rfl rfl trivial ?_
          exact wp_end (o := .inl (some (.int 0))) (h' := h134) (P := ((0 : Int32) = 0 ∨ (0 : Int32) = 1)) rfl rfl (Or.inl rfl) H
      · have c78 := Decidable.of_not_not c78
        have H := H.1 c78
        refine wp_steps (i' := 20) (ls' := [some (.ref 381), some (.int x3), some (.int x9), none]) (st' := [.ref 381]) (h' := h75) (P := True) 1 rfl rfl trivial ?_
        obtain ⟨o138, o139, o140, H⟩ := H
        refine wp_call (b := false) (y' := 230) (as := [.ref 381]) (rest := []) (P := ((mxT 381).1 = mxRc 230 ∧ mxG h75)) rfl (by with_unfolding_all rfl) ⟨(congrArg Prod.fst sT_381), G77⟩ (Nat.le_of_ble_eq_true rfl) (sp_230 G77 o138 o139 o140 ?_)
        intro x141 h142 p143
        show mx_wp (d + 8) 231 21 [some (.ref 381), some (.int x3), some (.int x9), none] [.int x141] h142 Q
        have H := H x141 h142 p143
        have G144 : mxG h142 := mxK_G p143.1 G77
        obtain ⟨o145, H⟩ := H
        exact wp_end (o := .inl (some (.int x141))) (h' := h142) (P := (x141 = 0 ∨ x141 = 1)) rfl rfl o145 H
  · skip
    have H := H.2 c1
    refine wp_steps (i' := 5) (ls' := [some (.ref 381), none, none, none]) (st' := [.int 0]) (h' := h) (P := True) 1 rfl rfl trivial ?_
    exact wp_end (o := .inl (some (.int 0))) (h' := h) (P := ((0 : Int32) = 0 ∨ (0 : Int32) = 1)) rfl rfl (Or.inl rfl) H
/-! 232: StoneBacksModel.every()Z -/
def H_232_3 (d : Nat) (h : mxH) (i1 : Int32) (Q : mxO → mxH → Prop) : Prop := ∀ (w2 : Option Value), mx_wp d 232 3 [some (.ref 381), some (.int i1), w2] [] h Q
set_option maxRecDepth 8000 in
theorem tr_232_0 {d : Nat} {ev : Nat} {h : mxH} {Q : mxO → mxH → Prop}  (hs_231 : ∀ {h : mxH} {Q : mxO → mxH → Prop}, mxG h → okA ev h → (∀ (x : Int32) (h1 : mxH), pA 0 h x h1 → Q (.inl (some (.int x))) h1) → mx_wp (d + 7) 231 0 (mx_fr 231 [.ref 381]) [] h Q) (G : mxG h)  (H : (okA ev h ∧ (∀ (x2 : Int32) (h3 : mxH), pA 0 h x2 h3 → H_232_3 (d + 8) h3 x2 Q))) : mx_wp (d + 8) 232 0 (mx_fr 232 [.ref 381]) [] h Q := by
  show mx_wp (d + 8) 232 0 [some (.ref 381), none, none] [] h Q
  refine wp_steps (i' := 1) (ls' := [some (.ref 381), none, none]) (st' := [.ref 381]) (h' := h) (P := True) 1 rfl rfl trivial ?_
  obtain ⟨o1, H⟩ := H
  refine wp_call (b := false) (y' := 231) (as := [.ref 381]) (rest := []) (P := ((mxT 381).1 = mxRc 231 ∧ mxG h)) rfl (by with_unfolding_all rfl) ⟨(congrArg Prod.fst sT_381), G⟩ (Nat.le_of_ble_eq_true rfl) (hs_231 G o1 ?_)
  intro x2 h3 p4
  show mx_wp (d + 8) 232 2 [some (.ref 381), none, none] [.int x2] h3 Q
  have H := H x2 h3 p4
  have G5 : mxG h3 := mxK_G p4.1 G
  refine wp_steps (i' := 3) (ls' := [some (.ref 381), some (.int x2), none]) (st' := []) (h' := h3) (P := True) 1 rfl rfl trivial ?_
  exact H _
set_option maxRecDepth 8000 in
theorem tr_232_3 {d : Nat} {ev : Nat} {h : mxH} {Q : mxO → mxH → Prop}  {i1 : Int32} (hs_231 : ∀ {h : mxH} {Q : mxO → mxH → Prop}, mxG h → okA ev h → (∀ (x : Int32) (h1 : mxH), pA 0 h x h1 → Q (.inl (some (.int x))) h1) → mx_wp (d + 7) 231 0 (mx_fr 231 [.ref 381]) [] h Q) (G : mxG h)  (H : (((mx_i h 381 12) = (-1) → (okT h ∧ (30 ≤ 60 ∧ 60 < 82 ∧ 60 % 2 = 0) ∧ (∀ (x5 : Int32) (h6 : mxH), p212 60 h x5 h6 → ((x5 = 0 → ((i1 = 0 ∨ i1 = 1) ∧ Q (.inl (some (.int i1))) h6)) ∧ (¬ x5 = 0 → (okA ev h6 ∧ (∀ (x12 : Int32) (h13 : mxH), pA 0 h6 x12 h13 → (∀ (v16 : Int32), v16 = ((if i1 = 0 then 0 else (if x12 = 0 then 0 else 1)) : Int32) → H_232_3 (d + 8) h13 v16 Q)))))))) ∧ (¬ (mx_i h 381 12) = (-1) → ((i1 = 0 ∨ i1 = 1) ∧ Q (.inl (some (.int i1))) h)))) : H_232_3 (d + 8) h i1 Q := by
  intro w2
  show mx_wp (d + 8) 232 3 [some (.ref 381), some (.int i1), w2] [] h Q
  refine wp_steps (i' := 6) (ls' := [some (.ref 381), some (.int i1), w2]) (st' := [.int (-1), .int (mx_i h 381 12)]) (h' := h) (P := ((mxT 381).1 = 11 ∧ mxG h) ∧ True) 3 rfl rfl ⟨⟨(congrArg Prod.fst sT_381), G⟩, trivial⟩ ?_
  refine wp_br (P := True) (c := ¬ (mx_i h 381 12) = (-1)) (t := 23) (st' := []) rfl rfl trivial (fun c1 => ?_) (fun c1 => ?_)
  · skip
    have H := H.2 c1
    refine wp_steps (i' := 24) (ls' := [some (.ref 381), some (.int i1), w2]) (st' := [.int i1]) (h' := h) (P := True) 1 rfl rfl trivial ?_
    obtain ⟨o2, H⟩ := H
    exact wp_end (o := .inl (some (.int i1))) (h' := h) (P := (i1 = 0 ∨ i1 = 1)) rfl rfl o2 H
  · have c1 := Decidable.of_not_not c1
    have H := H.1 c1
    refine wp_steps (i' := 9) (ls' := [some (.ref 381), some (.int i1), w2]) (st' := [.ref 60, .ref 381]) (h' := h) (P := True) 2 rfl rfl trivial ?_
    obtain ⟨o3, o4, H⟩ := H
    refine wp_call (b := false) (y' := 212) (as := [.ref 381, .ref 60]) (rest := []) (P := ((mxT 381).1 = mxRc 212 ∧ mxG h)) rfl (by with_unfolding_all rfl) ⟨(congrArg Prod.fst sT_381), G⟩ (Nat.le_of_ble_eq_true rfl) (sp_212 G o3 o4 ?_)
    intro x5 h6 p7
    show mx_wp (d + 8) 232 10 [some (.ref 381), some (.int i1), w2] [.int x5] h6 Q
    have H := H x5 h6 p7
    have G8 : mxG h6 := mxK_G p7.1 G
    refine wp_br (P := True) (c := x5 = 0) (t := 23) (st' := []) rfl rfl trivial (fun c9 => ?_) (fun c9 => ?_)
    · skip
      have H := H.1 c9
      refine wp_steps (i' := 24) (ls' := [some (.ref 381), some (.int i1), w2]) (st' := [.int i1]) (h' := h6) (P := True) 1 rfl rfl trivial ?_
      obtain ⟨o10, H⟩ := H
      exact wp_end (o := .inl (some (.int i1))) (h' := h6) (P := (i1 = 0 ∨ i1 = 1)) rfl rfl o10 H
    · skip
      have H := H.2 c9
      refine wp_steps (i' := 12) (ls' := [some (.ref 381), some (.int i1), w2]) (st' := [.ref 381]) (h' := h6) (P := True) 1 rfl rfl trivial ?_
      obtain ⟨o11, H⟩ := H
      refine wp_call (b := false) (y' := 231) (as := [.ref 381]) (rest := []) (P := ((mxT 381).1 = mxRc 231 ∧ mxG h6)) rfl (by with_unfolding_all rfl) ⟨(congrArg Prod.fst sT_381), G8⟩ (Nat.le_of_ble_eq_true rfl) (hs_231 G8 o11 ?_)
      intro x12 h13 p14
      show mx_wp (d + 8) 232 13 [some (.ref 381), some (.int i1), w2] [.int x12] h13 Q
      have H := H x12 h13 p14
      have G15 : mxG h13 := mxK_G p14.1 G8
      refine wp_steps (i' := 15) (ls' := [some (.ref 381), some (.int i1), some (.int x12)]) (st' := [.int i1]) (h' := h13) (P := True) 2 rfl rfl trivial ?_
      have J : ∀ (v16 : Int32) (ev16 : v16 = ((if i1 = 0 then 0 else (if x12 = 0 then 0 else 1)) : Int32)), mx_wp (d + 8) 232 21 [some (.ref 381), some (.int i1), some (.int x12)] [.int v16] h13 Q := by
        intro v16 ev16
        have H := H v16 ev16
        refine wp_steps (i' := 22) (ls' := [some (.ref 381), some (.int v16), some (.int x12)]) (st' := []) (h' := h13) (P := True) 1 rfl rfl trivial ?_
        refine wp_J (j := 3) (st' := []) rfl rfl ?_
        exact H _
      refine wp_br (P := True) (c := i1 = 0) (t := 20) (st' := []) rfl rfl trivial (fun c17 => ?_) (fun c17 => ?_)
      · skip
        refine wp_steps (i' := 21) (ls' := [some (.ref 381), some (.int i1), some (.int x12)]) (st' := [.int 0]) (h' := h13) (P := True) 1 rfl rfl trivial ?_
        exact J _ (by rw [if_pos c17])
      · skip
        refine wp_steps (i' := 17) (ls' := [some (.ref 381), some (.int i1), some (.int x12)]) (st' := [.int x12]) (h' := h13) (P := True) 1 rfl rfl trivial ?_
        refine wp_br (P := True) (c := x12 = 0) (t := 20) (st' := []) rfl rfl trivial (fun c18 => ?_) (fun c18 => ?_)
        · skip
          refine wp_steps (i' := 21) (ls' := [some (.ref 381), some (.int i1), some (.int x12)]) (st' := [.int 0]) (h' := h13) (P := True) 1 rfl rfl trivial ?_
          exact J _ (by rw [if_neg c17, if_pos c18])
        · skip
          refine wp_steps (i' := 19) (ls' := [some (.ref 381), some (.int i1), some (.int x12)]) (st' := [.int 1]) (h' := h13) (P := True) 1 rfl rfl trivial ?_
          refine wp_J (j := 21) (st' := [.int 1]) rfl rfl ?_
          exact J _ (by rw [if_neg c17, if_neg c18])
/-! 233: StoneBacksModel.some()Z -/
def H_233_3 (d : Nat) (h : mxH) (i1 : Int32) (Q : mxO → mxH → Prop) : Prop := ∀ (w2 : Option Value), mx_wp d 233 3 [some (.ref 381), some (.int i1), w2] [] h Q
set_option maxRecDepth 8000 in
theorem tr_233_0 {d : Nat} {ev : Nat} {h : mxH} {Q : mxO → mxH → Prop}  (hs_232 : ∀ {h : mxH} {Q : mxO → mxH → Prop}, mxG h → okA ev h → (∀ (x : Int32) (h1 : mxH), pA 1 h x h1 → Q (.inl (some (.int x))) h1) → mx_wp (d + 7) 232 0 (mx_fr 232 [.ref 381]) [] h Q) (G : mxG h)  (H : (okA ev h ∧ (∀ (x2 : Int32) (h3 : mxH), pA 1 h x2 h3 → H_233_3 (d + 8) h3 x2 Q))) : mx_wp (d + 8) 233 0 (mx_fr 233 [.ref 381]) [] h Q := by
  show mx_wp (d + 8) 233 0 [some (.ref 381), none, none] [] h Q
  refine wp_steps (i' := 1) (ls' := [some (.ref 381), none, none]) (st' := [.ref 381]) (h' := h) (P := True) 1 rfl rfl trivial ?_
  obtain ⟨o1, H⟩ := H
  refine wp_call (b := false) (y' := 232) (as := [.ref 381]) (rest := []) (P := ((mxT 381).1 = mxRc 232 ∧ mxG h)) rfl (by with_unfolding_all rfl) ⟨(congrArg Prod.fst sT_381), G⟩ (Nat.le_of_ble_eq_true rfl) (hs_232 G o1 ?_)
  intro x2 h3 p4
  show mx_wp (d + 8) 233 2 [some (.ref 381), none, none] [.int x2] h3 Q
  have H := H x2 h3 p4
  have G5 : mxG h3 := mxK_G p4.1 G
  refine wp_steps (i' := 3) (ls' := [some (.ref 381), some (.int x2), none]) (st' := []) (h' := h3) (P := True) 1 rfl rfl trivial ?_
  exact H _
set_option maxRecDepth 8000 in
theorem tr_233_3 {d : Nat} {ev : Nat} {h : mxH} {Q : mxO → mxH → Prop}  {i1 : Int32} (hs_232 : ∀ {h : mxH} {Q : mxO → mxH → Prop}, mxG h → okA ev h → (∀ (x : Int32) (h1 : mxH), pA 1 h x h1 → Q (.inl (some (.int x))) h1) → mx_wp (d + 7) 232 0 (mx_fr 232 [.ref 381]) [] h Q) (G : mxG h)  (H : (((mx_i h 381 12) = (-1) → (okT h ∧ (30 ≤ 58 ∧ 58 < 82 ∧ 58 % 2 = 0) ∧ (∀ (x5 : Int32) (h6 : mxH), p212 58 h x5 h6 → ((x5 = 0 → ((i1 = 0 ∨ i1 = 1) ∧ Q (.inl (some (.int i1))) h6)) ∧ (¬ x5 = 0 → (okA ev h6 ∧ (∀ (x12 : Int32) (h13 : mxH), pA 1 h6 x12 h13 → (∀ (v16 : Int32), v16 = ((if i1 = 0 then (if x12 = 0 then 0 else 1) else 1) : Int32) → H_233_3 (d + 8) h13 v16 Q)))))))) ∧ (¬ (mx_i h 381 12) = (-1) → ((i1 = 0 ∨ i1 = 1) ∧ Q (.inl (some (.int i1))) h)))) : H_233_3 (d + 8) h i1 Q := by
  intro w2
  show mx_wp (d + 8) 233 3 [some (.ref 381), some (.int i1), w2] [] h Q
  refine wp_steps (i' := 6) (ls' := [some (.ref 381), some (.int i1), w2]) (st' := [.int (-1), .int (mx_i h 381 12)]) (h' := h) (P := ((mxT 381).1 = 11 ∧ mxG h) ∧ True) 3 rfl rfl ⟨⟨(congrArg Prod.fst sT_381), G⟩, trivial⟩ ?_
  refine wp_br (P := True) (c := ¬ (mx_i h 381 12) = (-1)) (t := 23) (st' := []) rfl rfl trivial (fun c1 => ?_) (fun c1 => ?_)
  · skip
    have H := H.2 c1
    refine wp_steps (i' := 24) (ls' := [some (.ref 381), some (.int i1), w2]) (st' := [.int i1]) (h' := h) (P := True) 1 rfl rfl trivial ?_
    obtain ⟨o2, H⟩ := H
    exact wp_end (o := .inl (some (.int i1))) (h' := h) (P := (i1 = 0 ∨ i1 = 1)) rfl rfl o2 H
  · have c1 := Decidable.of_not_not c1
    have H := H.1 c1
    refine wp_steps (i' := 9) (ls' := [some (.ref 381), some (.int i1), w2]) (st' := [.ref 58, .ref 381]) (h' := h) (P := True) 2 rfl rfl trivial ?_
    obtain ⟨o3, o4, H⟩ := H
    refine wp_call (b := false) (y' := 212) (as := [.ref 381, .ref 58]) (rest := []) (P := ((mxT 381).1 = mxRc 212 ∧ mxG h)) rfl (by with_unfolding_all rfl) ⟨(congrArg Prod.fst sT_381), G⟩ (Nat.le_of_ble_eq_true rfl) (sp_212 G o3 o4 ?_)
    intro x5 h6 p7
    show mx_wp (d + 8) 233 10 [some (.ref 381), some (.int i1), w2] [.int x5] h6 Q
    have H := H x5 h6 p7
    have G8 : mxG h6 := mxK_G p7.1 G
    refine wp_br (P := True) (c := x5 = 0) (t := 23) (st' := []) rfl rfl trivial (fun c9 => ?_) (fun c9 => ?_)
    · skip
      have H := H.1 c9
      refine wp_steps (i' := 24) (ls' := [some (.ref 381), some (.int i1), w2]) (st' := [.int i1]) (h' := h6) (P := True) 1 rfl rfl trivial ?_
      obtain ⟨o10, H⟩ := H
      exact wp_end (o := .inl (some (.int i1))) (h' := h6) (P := (i1 = 0 ∨ i1 = 1)) rfl rfl o10 H
    · skip
      have H := H.2 c9
      refine wp_steps (i' := 12) (ls' := [some (.ref 381), some (.int i1), w2]) (st' := [.ref 381]) (h' := h6) (P := True) 1 rfl rfl trivial ?_
      obtain ⟨o11, H⟩ := H
      refine wp_call (b := false) (y' := 232) (as := [.ref 381]) (rest := []) (P := ((mxT 381).1 = mxRc 232 ∧ mxG h6)) rfl (by with_unfolding_all rfl) ⟨(congrArg Prod.fst sT_381), G8⟩ (Nat.le_of_ble_eq_true rfl) (hs_232 G8 o11 ?_)
      intro x12 h13 p14
      show mx_wp (d + 8) 233 13 [some (.ref 381), some (.int i1), w2] [.int x12] h13 Q
      have H := H x12 h13 p14
      have G15 : mxG h13 := mxK_G p14.1 G8
      refine wp_steps (i' := 15) (ls' := [some (.ref 381), some (.int i1), some (.int x12)]) (st' := [.int i1]) (h' := h13) (P := True) 2 rfl rfl trivial ?_
      have J : ∀ (v16 : Int32) (ev16 : v16 = ((if i1 = 0 then (if x12 = 0 then 0 else 1) else 1) : Int32)), mx_wp (d + 8) 233 21 [some (.ref 381), some (.int i1), some (.int x12)] [.int v16] h13 Q := by
        intro v16 ev16
        have H := H v16 ev16
        refine wp_steps (i' := 22) (ls' := [some (.ref 381), some (.int v16), some (.int x12)]) (st' := []) (h' := h13) (P := True) 1 rfl rfl trivial ?_
        refine wp_J (j := 3) (st' := []) rfl rfl ?_
        exact H _
      refine wp_br (P := True) (c := ¬ i1 = 0) (t := 18) (st' := []) rfl rfl trivial (fun c17 => ?_) (fun c17 => ?_)
      · skip
        refine wp_steps (i' := 19) (ls' := [some (.ref 381), some (.int i1), some (.int x12)]) (st' := [.int 1]) (h' := h13) (P := True) 1 rfl rfl trivial ?_
        refine wp_J (j := 21) (st' := [.int 1]) rfl rfl ?_
        exact J _ (by rw [if_neg c17])
      · have c17 := Decidable.of_not_not c17
        refine wp_steps (i' := 17) (ls' := [some (.ref 381), some (.int i1), some (.int x12)]) (st' := [.int x12]) (h' := h13) (P := True) 1 rfl rfl trivial ?_
        refine wp_br (P := True) (c := x12 = 0) (t := 20) (st' := []) rfl rfl trivial (fun c18 => ?_) (fun c18 => ?_)
        · skip
          refine wp_steps (i' := 21) (ls' := [some (.ref 381), some (.int i1), some (.int x12)]) (st' := [.int 0]) (h' := h13) (P := True) 1 rfl rfl trivial ?_
          exact J _ (by rw [if_pos c17, if_pos c18])
        · skip
          refine wp_steps (i' := 19) (ls' := [some (.ref 381), some (.int i1), some (.int x12)]) (st' := [.int 1]) (h' := h13) (P := True) 1 rfl rfl trivial ?_
          refine wp_J (j := 21) (st' := [.int 1]) rfl rfl ?_
          exact J _ (by rw [if_pos c17, if_neg c18])
