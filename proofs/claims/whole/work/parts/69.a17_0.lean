/-! 234: StoneBacksModel.lawLine()V -/
set_option maxRecDepth 8000 in
theorem tr_234_0 {d : Nat} {h : mxH} {Q : mxO → mxH → Prop}  (G : mxG h)  (H : (okT h ∧ (30 ≤ 50 ∧ 50 < 82 ∧ 50 % 2 = 0) ∧ (∀ (x3 : Int32) (h4 : mxH), p212 50 h x3 h4 → ((x3 = 0 → (okT h4 ∧ (30 ≤ 52 ∧ 52 < 82 ∧ 52 % 2 = 0) ∧ (∀ (x10 : Int32) (h11 : mxH), p212 52 h4 x10 h11 → ((x10 = 0 → (okT h11 ∧ (30 ≤ 54 ∧ 54 < 82 ∧ 54 % 2 = 0) ∧ (∀ (x17 : Int32) (h18 : mxH), p212 54 h11 x17 h18 → (∀ (v21 : Int32), v21 = ((if x17 = 0 then (-1) else 2) : Int32) → ((v21 = (-1) → (∀ h80, h80 = W_213 h18 (mx_i h18 381 11) → Q (.inl none) h80)) ∧ (¬ v21 = (-1) → (okT h18 ∧ (∀ (x24 : Int32) (h25 : mxH), p215 (0 : Int32) (99 : Int32) h18 x24 h25 → (((mx_i h25 381 12) = (-1) → (okT h25 ∧ (30 ≤ 56 ∧ 56 < 82 ∧ 56 % 2 = 0) ∧ (∀ (x31 : Int32) (h32 : mxH), p212 56 h25 x31 h32 → ((x31 = 0 → (((mx_i h32 381 12) = (-1) → (((1 : Int32) = 0 → Q (.inl none) h32) ∧ (¬ (1 : Int32) = 0 → (∀ (v38 : Int32), v38 = ((if v21 = 0 then x24 else 0) : Int32) → (∀ h39, h39 = mx_wi h32 381 17 ((mx_i h32 381 17) + v38) → (∀ (v42 : Int32), v42 = ((if v21 = 1 then x24 else 0) : Int32) → (∀ h43, h43 = mx_wi h39 381 18 ((mx_i h39 381 18) + v42) → (∀ (v46 : Int32), v46 = ((if v21 = 2 then x24 else 0) : Int32) → (∀ h47, h47 = mx_wi h43 381 19 ((mx_i h43 381 19) + v46) → Q (.inl none) h47))))))))) ∧ (¬ (mx_i h32 381 12) = (-1) → Q (.inl none) h32))) ∧ (¬ x31 = 0 → (okT h32 ∧ mx_i h32 381 12 = -1 ∧ fc01 h32 ∧ mx_i h32 381 13 = 0 ∧ (∀ (x57 : Int32) (h58 : mxH), p233 h32 x57 h58 → (∀ (v61 : Int32), v61 = ((if x57 = 0 then 0 else 1) : Int32) → (((mx_i h58 381 12) = (-1) → ((v61 = 0 → Q (.inl none) h58) ∧ (¬ v61 = 0 → (∀ (v64 : Int32), v64 = ((if v21 = 0 then x24 else 0) : Int32) → (∀ h65, h65 = mx_wi h58 381 17 ((mx_i h58 381 17) + v64) → (∀ (v68 : Int32), v68 = ((if v21 = 1 then x24 else 0) : Int32) → (∀ h69, h69 = mx_wi h65 381 18 ((mx_i h65 381 18) + v68) → (∀ (v72 : Int32), v72 = ((if v21 = 2 then x24 else 0) : Int32) → (∀ h73, h73 = mx_wi h69 381 19 ((mx_i h69 381 19) + v72) → Q (.inl none) h73))))))))) ∧ (¬ (mx_i h58 381 12) = (-1) → Q (.inl none) h58)))))))))) ∧ (¬ (mx_i h25 381 12) = (-1) → Q (.inl none) h25)))))))))) ∧ (¬ x10 = 0 → (((1 : Int32) = (-1) → (∀ h143, h143 = W_213 h11 (mx_i h11 381 11) → Q (.inl none) h143)) ∧ (¬ (1 : Int32) = (-1) → (okT h11 ∧ (∀ (x87 : Int32) (h88 : mxH), p215 (0 : Int32) (99 : Int32) h11 x87 h88 → (((mx_i h88 381 12) = (-1) → (okT h88 ∧ (30 ≤ 56 ∧ 56 < 82 ∧ 56 % 2 = 0) ∧ (∀ (x94 : Int32) (h95 : mxH), p212 56 h88 x94 h95 → ((x94 = 0 → (((mx_i h95 381 12) = (-1) → (((1 : Int32) = 0 → Q (.inl none) h95) ∧ (¬ (1 : Int32) = 0 → (∀ (v101 : Int32), v101 = ((if (1 : Int32) = 0 then x87 else 0) : Int32) → (∀ h102, h102 = mx_wi h95 381 17 ((mx_i h95 381 17) + v101) → (∀ (v105 : Int32), v105 = ((if (1 : Int32) = 1 then x87 else 0) : Int32) → (∀ h106, h106 = mx_wi h102 381 18 ((mx_i h102 381 18) + v105) → (∀ (v109 : Int32), v109 = ((if (1 : Int32) = 2 then x87 else 0) : Int32) → (∀ h110, h110 = mx_wi h106 381 19 ((mx_i h106 381 19) + v109) → Q (.inl none) h110))))))))) ∧ (¬ (mx_i h95 381 12) = (-1) → Q (.inl none) h95))) ∧ (¬ x94 = 0 → (okT h95 ∧ mx_i h95 381 12 = -1 ∧ fc01 h95 ∧ mx_i h95 381 13 = 0 ∧ (∀ (x120 : Int32) (h121 : mxH), p233 h95 x120 h121 → (∀ (v124 : Int32), v124 = ((if x120 = 0 then 0 else 1) : Int32) → (((mx_i h121 381 12) = (-1) → ((v124 = 0 → Q (.inl none) h121) ∧ (¬ v124 = 0 → (∀ (v127 : Int32), v127 = ((if (1 : Int32) = 0 then x87 else 0) : Int32) → (∀ h128, h128 = mx_wi h121 381 17 ((mx_i h121 381 17) + v127) → (∀ (v131 : Int32), v131 = ((if (1 : Int32) = 1 then x87 else 0) : Int32) → (∀ h132, h132 = mx_wi h128 381 18 ((mx_i h128 381 18) + v131) → (∀ (v135 : Int32), v135 = ((if (1 : Int32) = 2 then x87 else 0) : Int32) → (∀ h136, h136 = mx_wi h132 381 19 ((mx_i h132 381 19) + v135) → Q (.inl none) h136))))))))) ∧ (¬ (mx_i h121 381 12) = (-1) → Q (.inl none) h121)))))))))) ∧ (¬ (mx_i h88 381 12) = (-1) → Q (.inl none) h88))))))))))) ∧ (¬ x3 = 0 → (((0 : Int32) = (-1) → (∀ h205, h205 = W_213 h4 (mx_i h4 381 11) → Q (.inl none) h205)) ∧ (¬ (0 : Int32) = (-1) → (okT h4 ∧ (∀ (x149 : Int32) (h150 : mxH), p215 (0 : Int32) (99 : Int32) h4 x149 h150 → (((mx_i h150 381 12) = (-1) → (okT h150 ∧ (30 ≤ 56 ∧ 56 < 82 ∧ 56 % 2 = 0) ∧ (∀ (x156 : Int32) (h157 : mxH), p212 56 h150 x156 h157 → ((x156 = 0 → (((mx_i h157 381 12) = (-1) → (((1 : Int32) = 0 → Q (.inl none) h157) ∧ (¬ (1 : Int32) = 0 → (∀ (v163 : Int32), v163 = ((if (0 : Int32) = 0 then x149 else 0) : Int32) → (∀ h164, h164 = mx_wi h157 381 17 ((mx_i h157 381 17) + v163) → (∀ (v167 : Int32), v167 = ((if (0 : Int32) = 1 then x149 else 0) : Int32) → (∀ h168, h168 = mx_wi h164 381 18 ((mx_i h164 381 18) + v167) → (∀ (v171 : Int32), v171 = ((if (0 : Int32) = 2 then x149 else 0) : Int32) → (∀ h172, h172 = mx_wi h168 381 19 ((mx_i h168 381 19) + v171) → Q (.inl none) h172))))))))) ∧ (¬ (mx_i h157 381 12) = (-1) → Q (.inl none) h157))) ∧ (¬ x156 = 0 → (okT h157 ∧ mx_i h157 381 12 = -1 ∧ fc01 h157 ∧ mx_i h157 381 13 = 0 ∧ (∀ (x182 : Int32) (h183 : mxH), p233 h157 x182 h183 → (∀ (v186 : Int32), v186 = ((if x182 = 0 then 0 else 1) : Int32) → (((mx_i h183 381 12) = (-1) → ((v186 = 0 → Q (.inl none) h183) ∧ (¬ v186 = 0 → (∀ (v189 : Int32), v189 = ((if (0 : Int32) = 0 then x149 else 0) : Int32) → (∀ h190, h190 = mx_wi h183 381 17 ((mx_i h183 381 17) + v189) → (∀ (v193 : Int32), v193 = ((if (0 : Int32) = 1 then x149 else 0) : Int32) → (∀ h194, h194 = mx_wi h190 381 18 ((mx_i h190 381 18) + v193) → (∀ (v197 : Int32), v197 = ((if (0 : Int32) = 2 then x149 else 0) : Int32) → (∀ h198, h198 = mx_wi h194 381 19 ((mx_i h194 381 19) + v197) → Q (.inl none) h198))))))))) ∧ (¬ (mx_i h183 381 12) = (-1) → Q (.inl none) h183)))))))))) ∧ (¬ (mx_i h150 381 12) = (-1) → Q (.inl none) h150))))))))))) : mx_wp (d + 31) 234 0 (mx_fr 234 [.ref 381]) [] h Q := by
  show mx_wp (d + 31) 234 0 [some (.ref 381), none, none, none] [] h Q
  refine wp_steps (i' := 2) (ls' := [some (.ref 381), none, none, none]) (st' := [.ref 50, .ref 381]) (h' := h) (P := True) 2 rfl rfl trivial ?_
  obtain ⟨o1, o2, H⟩ := H
  refine wp_call (b := false) (y' := 212) (as := [.ref 381, .ref 50]) (rest := []) (P := ((mxT 381).1 = mxRc 212 ∧ mxG h)) rfl (by with_unfolding_all rfl) ⟨(congrArg Prod.fst sT_381), G⟩ (Nat.le_of_ble_eq_true rfl) (sp_212 G o1 o2 ?_)
  intro x3 h4 p5
  show mx_wp (d + 31) 234 3 [some (.ref 381), none, none, none] [.int x3] h4 Q
  have H := H x3 h4 p5
  have G6 : mxG h4 := mxK_G p5.1 G
  refine wp_br (P := True) (c := x3 = 0) (t := 6) (st' := []) rfl rfl trivial (fun c7 => ?_) (fun c7 => ?_)
  · skip
    have H := H.1 c7
    refine wp_steps (i' := 8) (ls' := [some (.ref 381), none, none, none]) (st' := [.ref 52, .ref 381]) (h' := h4) (P := True) 2 rfl rfl trivial ?_
    obtain ⟨o8, o9, H⟩ := H
    refine wp_call (b := false) (y' := 212) (as := [.ref 381, .ref 52]) (rest := []) (P := ((mxT 381).1 = mxRc 212 ∧ mxG h4)) rfl (by with_unfolding_all rfl) ⟨(congrArg Prod.fst sT_381), G6⟩ (Nat.le_of_ble_eq_true rfl) (sp_212 G6 o8 o9 ?_)
    intro x10 h11 p12
    show mx_wp (d + 31) 234 9 [some (.ref 381), none, none, none] [.int x10] h11 Q
    have H := H x10 h11 p12
    have G13 : mxG h11 := mxK_G p12.1 G6
    refine wp_br (P := True) (c := x10 = 0) (t := 12) (st' := []) rfl rfl trivial (fun c14 => ?_) (fun c14 => ?_)
    · skip
      have H := H.1 c14
      refine wp_steps (i' := 14) (ls' := [some (.ref 381), none, none, none]) (st' := [.ref 54, .ref 381]) (h' := h11) (P := True) 2 rfl rfl trivial ?_
      obtain ⟨o15, o16, H⟩ := H
      refine wp_call (b := false) (y' := 212) (as := [.ref 381, .ref 54]) (rest := []) (P := ((mxT 381).1 = mxRc 212 ∧ mxG h11)) rfl (by with_unfolding_all rfl) ⟨(congrArg Prod.fst sT_381), G13⟩ (Nat.le_of_ble_eq_true rfl) (sp_212 G13 o15 o16 ?_)
      intro x17 h18 p19
      show mx_wp (d + 31) 234 15 [some (.ref 381), none, none, none] [.int x17] h18 Q
      have H := H x17 h18 p19
      have G20 : mxG h18 := mxK_G p19.1 G13
      have J : ∀ (v21 : Int32) (ev21 : v21 = ((if x17 = 0 then (-1) else 2) : Int32)), mx_wp (d + 31) 234 19 [some (.ref 381), none, none, none] [.int v21] h18 Q := by
        intro v21 ev21
        have H := H v21 ev21
        refine wp_steps (i' := 22) (ls' := [some (.ref 381), some (.int v21), none, none]) (st' := [.int (-1), .int v21]) (h' := h18) (P := True) 3 rfl rfl trivial ?_
        refine wp_br (P := True) (c := ¬ v21 = (-1)) (t := 28) (st' := []) rfl rfl trivial (fun c22 => ?_) (fun c22 => ?_)
        · skip
          have H := H.2 c22
          refine wp_steps (i' := 31) (ls' := [some (.ref 381), some (.int v21), none, none]) (st' := [.int 99, .int 0, .ref 381]) (h' := h18) (P := True) 3 rfl rfl trivial ?_
          obtain ⟨o23, H⟩ := H
          refine wp_call (b := false) (y' := 215) (as := [.ref 381, .int 0, .int 99]) (rest := []) (P := ((mxT 381).1 = mxRc 215 ∧ mxG h18)) rfl (by with_unfolding_all rfl) ⟨(congrArg Prod.fst sT_381), G20⟩ (Nat.le_of_ble_eq_true rfl) (sp_215 G20 o23 ?_)
          intro x24 h25 p26
          show mx_wp (d + 31) 234 32 [some (.ref 381), some (.int v21), none, none] [.int x24] h25 Q
          have H := H x24 h25 p26
          have G27 : mxG h25 := mxK_G p26.1 G20
          refine wp_steps (i' := 36) (ls' := [some (.ref 381), some (.int v21), some (.int x24), none]) (st' := [.int (-1), .int (mx_i h25 381 12)]) (h' := h25) (P := ((mxT 381).1 = 11 ∧ mxG h25) ∧ True) 4 rfl rfl ⟨⟨(congrArg Prod.fst sT_381), G27⟩, trivial⟩ ?_
          refine wp_br (P := True) (c := (mx_i h25 381 12) = (-1)) (t := 38) (st' := []) rfl rfl trivial (fun c28 => ?_) (fun c28 => ?_)
          · skip
            have H := H.1 c28
            refine wp_steps (i' := 40) (ls' := [some (.ref 381), some (.int v21), some (.int x24), none]) (st' := [.ref 56, .ref 381]) (h' := h25) (P := True) 2 rfl rfl trivial ?_
            obtain ⟨o29, o30, H⟩ := H
            refine wp_call (b := false) (y' := 212) (as := [.ref 381, .ref 56]) (rest := []) (P := ((mxT 381).1 = mxRc 212 ∧ mxG h25)) rfl (by with_unfolding_all rfl) ⟨(congrArg Prod.fst sT_381), G27⟩ (Nat.le_of_ble_eq_true rfl) (sp_212 G27 o29 o30 ?_)
            intro x31 h32 p33
            show mx_wp (d + 31) 234 41 [some (.ref 381), some (.int v21), some (.int x24), none] [.int x31] h32 Q
            have H := H x31 h32 p33
            have G34 : mxG h32 := mxK_G p33.1 G27
            refine wp_br (P := True) (c := x31 = 0) (t := 45) (st' := []) rfl rfl trivial (fun c35 => ?_) (fun c35 => ?_)
            · skip
              have H := H.1 c35
              refine wp_steps (i' := 46) (ls' := [some (.ref 381), some (.int v21), some (.int x24), none]) (st' := [.int 1]) (h' := h32) (P := True) 1 rfl rfl trivial ?_
              refine wp_J (j := 48) (st' := [.int 1]) rfl rfl ?_
              refine wp_steps (i' := 52) (ls' := [some (.ref 381), some (.int v21), some (.int x24), some (.int 1)]) (st' := [.int (-1), .int (mx_i h32 381 12)]) (h' := h32) (P := ((mxT 381).1 = 11 ∧ mxG h32) ∧ True) 4 rfl rfl ⟨⟨(congrArg Prod.fst sT_381), G34⟩, trivial⟩ ?_
              refine wp_br (P := True) (c := ¬ (mx_i h32 381 12) = (-1)) (t := 55) (st' := []) rfl rfl trivial (fun c36 => ?_) (fun c36 => ?_)
              · skip
                have H := H.2 c36
                exact wp_end (o := .inl none) (h' := h32) (P := True) rfl rfl trivial H
              · have c36 := Decidable.of_not_not c36
                have H := H.1 c36
                refine wp_steps (i' := 54) (ls' := [some (.ref 381), some (.int v21), some (.int x24), some (.int 1)]) (st' := [.int 1]) (h' := h32) (P := True) 1 rfl rfl trivial ?_
                refine wp_br (P := True) (c := ¬ (1 : Int32) = 0) (t := 56) (st' := []) rfl rfl trivial (fun c37 => ?_) (fun c37 => ?_)
                · skip
                  have H := H.2 c37
                  refine wp_steps (i' := 60) (ls' := [some (.ref 381), some (.int v21), some (.int x24), some (.int 1)]) (st' := [.int v21, .int (mx_i h32 381 17), .ref 381]) (h' := h32) (P := ((mxT 381).1 = 11 ∧ mxG h32) ∧ True) 4 rfl rfl ⟨⟨(congrArg Prod.fst sT_381), G34⟩, trivial⟩ ?_
                  have J : ∀ (v38 : Int32) (ev38 : v38 = ((if v21 = 0 then x24 else 0) : Int32)), mx_wp (d + 31) 234 64 [some (.ref 381), some (.int v21), some (.int x24), some (.int 1)] [.int v38, .int (mx_i h32 381 17), .ref 381] h32 Q := by
                    intro v38 ev38
                    have H := H v38 ev38
                    refine wp_steps (i' := 66) (ls' := [some (.ref 381), some (.int v21), some (.int x24), some (.int 1)]) (st' := []) (h' := mx_wi h32 381 17 ((mx_i h32 381 17) + v38)) (P := ((mxT 381).1 = 11 ∧ mxG h32) ∧ True) 2 rfl rfl ⟨⟨(congrArg Prod.fst sT_381), G34⟩, trivial⟩ ?_
                    obtain ⟨h39, e40⟩ : ∃ z9, z9 = mx_wi h32 381 17 ((mx_i h32 381 17) + v38) := ⟨_, rfl⟩
                    rw [← e40]
                    have H := H h39 e40
                    have G41 : mxG h39 := e40 ▸ mxG_wi G34
                    refine wp_steps (i' := 71) (ls' := [some (.ref 381), some (.int v21), some (.int x24), some (.int 1)]) (st' := [.int 1, .int v21, .int (mx_i h39 381 18), .ref 381]) (h' := h39) (P := ((mxT 381).1 = 11 ∧ mxG h39) ∧ True) 5 rfl rfl ⟨⟨(congrArg Prod.fst sT_381), G41⟩, trivial⟩ ?_
                    have J : ∀ (v42 : Int32) (ev42 : v42 = ((if v21 = 1 then x24 else 0) : Int32)), mx_wp (d + 31) 234 75 [some (.ref 381), some (.int v21), some (.int x24), some (.int 1)] [.int v42, .int (mx_i h39 381 18), .ref 381] h39 Q := by
                      intro v42 ev42
                      have H := H v42 ev42
                      refine wp_steps (i' := 77) (ls' := [some (.ref 381), some (.int v21), some (.int x24), some (.int 1)]) (st' := []) (h' := mx_wi h39 381 18 ((mx_i h39 381 18) + v42)) (P := ((mxT 381).1 = 11 ∧ mxG h39) ∧ True) 2 rfl rfl ⟨⟨(congrArg Prod.fst sT_381), G41⟩, trivial⟩ ?_
                      obtain ⟨h43, e44⟩ : ∃ z9, z9 = mx_wi h39 381 18 ((mx_i h39 381 18) + v42) := ⟨_, rfl⟩
                      rw [← e44]
                      have H := H h43 e44
                      have G45 : mxG h43 := e44 ▸ mxG_wi G41
                      refine wp_steps (i' := 82) (ls' := [some (.ref 381), some (.int v21), some (.int x24), some (.int 1)]) (st' := [.int 2, .int v21, .int (mx_i h43 381 19), .ref 381]) (h' := h43) (P := ((mxT 381).1 = 11 ∧ mxG h43) ∧ True) 5 rfl rfl ⟨⟨(congrArg Prod.fst sT_381), G45⟩, trivial⟩ ?_
                      have J : ∀ (v46 : Int32) (ev46 : v46 = ((if v21 = 2 then x24 else 0) : Int32)), mx_wp (d + 31) 234 86 [some (.ref 381), some (.int v21), some (.int x24), some (.int 1)] [.int v46, .int (mx_i h43 381 19), .ref 381] h43 Q := by
                        intro v46 ev46
                        have H := H v46 ev46
                        refine wp_steps (i' := 88) (ls' := [some (.ref 381), some (.int v21), some (.int x24), some (.int 1)]) (st' := []) (h' := mx_wi h43 381 19 ((mx_i h43 381 19) + v46)) (P := ((mxT 381).1 = 11 ∧ mxG h43) ∧ True) 2 rfl rfl ⟨⟨(congrArg Prod.fst sT_381), G45⟩, trivial⟩ ?_
                        obtain ⟨h47, e48⟩ : ∃ z9, z9 = mx_wi h43 381 19 ((mx_i h43 381 19) + v46) := ⟨_, rfl⟩
                        rw [← e48]
                        have H := H h47 e48
                        have G49 : mxG h47 := e48 ▸ mxG_wi G45
                        exact wp_end (o := .inl none) (h' := h47) (P := True) rfl rfl trivial H
                      refine wp_br (P := True) (c := ¬ v21 = 2) (t := 85) (st' := [.int (mx_i h43 381 19), .ref 381]) rfl rfl trivial (fun c50 => ?_) (fun c50 => ?_)
                      · skip
                        refine wp_steps (i' := 86) (ls' := [some (.ref 381), some (.int v21), some (.int x24), some (.int 1)]) (st' := [.int 0, .int (mx_i h43 381 19), .ref 381]) (h' := h43) (P := True) 1 rfl rfl trivial ?_
                        exact J _ (by rw [if_neg c50])
                      · have c50 := Decidable.of_not_not c50
                        refine wp_steps (i' := 84) (ls' := [some (.ref 381), some (.int v21), some (.int x24), some (.int 1)]) (st' := [.int x24, .int (mx_i h43 381 19), .ref 381]) (h' := h43) (P := True) 1 rfl rfl trivial ?_
                        refine wp_J (j := 86) (st' := [.int x24, .int (mx_i h43 381 19), .ref 381]) rfl rfl ?_
                        exact J _ (by rw [if_pos c50])
                    refine wp_br (P := True) (c := ¬ v21 = 1) (t := 74) (st' := [.int (mx_i h39 381 18), .ref 381]) rfl rfl trivial (fun c51 => ?_) (fun c51 => ?_)
                    · skip
                      refine wp_steps (i' := 75) (ls' := [some (.ref 381), some (.int v21), some (.int x24), some (.int 1)]) (st' := [.int 0, .int (mx_i h39 381 18), .ref 381]) (h' := h39) (P := True) 1 rfl rfl trivial ?_
                      exact J _ (by rw [if_neg c51])
                    · have c51 := Decidable.of_not_not c51
                      refine wp_steps (i' := 73) (ls' := [some (.ref 381), some (.int v21), some (.int x24), some (.int 1)]) (st' := [.int x24, .int (mx_i h39 381 18), .ref 381]) (h' := h39) (P := True) 1 rfl rfl trivial ?_
                      refine wp_J (j := 75) (st' := [.int x24, .int (mx_i h39 381 18), .ref 381]) rfl rfl ?_
                      exact J _ (by rw [if_pos c51])
                  refine wp_br (P := True) (c := ¬ v21 = 0) (t := 63) (st' := [.int (mx_i h32 381 17), .ref 381]) rfl rfl trivial (fun c52 => ?_) (fun c52 => ?_)
                  · skip
                    refine wp_steps (i' := 64) (ls' := [some (.ref 381), some (.int v21), some (.int x24), some (.int 1)]) (st' := [.int 0, .int (mx_i h32 381 17), .ref 381]) (h' := h32) (P := True) 1 rfl rfl trivial ?_
                    exact J _ (by rw [if_neg c52])
                  · have c52 := Decidable.of_not_not c52
                    refine wp_steps (i' := 62) (ls' := [some (.ref 381), some (.int v21), some (.int x24), some (.int 1)]) (st' := [.int x24, .int (mx_i h32 381 17), .ref 381]) (h' := h32) (P := True) 1 rfl rfl trivial ?_
                    refine wp_J (j := 64) (st' := [.int x24, .int (mx_i h32 381 17), .ref 381]) rfl rfl ?_
                    exact J _ (by rw [if_pos c52])
                · have c37 := Decidable.of_not_not c37
                  have H := H.1 c37
                  exact wp_end (o := .inl none) (h' := h32) (P := True) rfl rfl trivial H
            · skip
              have H := H.2 c35
              refine wp_steps (i' := 43) (ls' := [some (.ref 381), some (.int v21), some (.int x24), none]) (st' := [.ref 381]) (h' := h32) (P := True) 1 rfl rfl trivial ?_
              obtain ⟨o53, o54, o55, o56, H⟩ := H
              refine wp_call (b := false) (y' := 233) (as := [.ref 381]) (rest := []) (P := ((mxT 381).1 = mxRc 233 ∧ mxG h32)) rfl (by with_unfolding_all rfl) ⟨(congrArg Prod.fst sT_381), G34⟩ (Nat.le_of_ble_eq_true rfl) (sp_233 G34 o53 o54 o55 o56 ?_)
              intro x57 h58 p59
              show mx_wp (d + 31) 234 44 [some (.ref 381), some (.int v21), some (.int x24), none] [.int x57] h58 Q
              have H := H x57 h58 p59
              have G60 : mxG h58 := mxK_G p59.1 G34
              have J : ∀ (v61 : Int32) (ev61 : v61 = ((if x57 = 0 then 0 else 1) : Int32)), mx_wp (d + 31) 234 48 [some (.ref 381), some (.int v21), some (.int x24), none] [.int v61] h58 Q := by
                intro v61 ev61
                have H := H v61 ev61
                refine wp_steps (i' := 52) (ls' := [some (.ref 381), some (.int v21), some (.int x24), some (.int v61)]) (st' := [.int (-1), .int (mx_i h58 381 12)]) (h' := h58) (P := ((mxT 381).1 = 11 ∧ mxG h58) ∧ True) 4 rfl rfl ⟨⟨(congrArg Prod.fst sT_381), G60⟩, trivial⟩ ?_
                refine wp_br (P := True) (c := ¬ (mx_i h58 381 12) = (-1)) (t := 55) (st' := []) rfl rfl trivial (fun c62 => ?_) (fun c62 => ?_)
                · skip
                  have H := H.2 c62
                  exact wp_end (o := .inl none) (h' := h58) (P := True) rfl rfl trivial H
                · have c62 := Decidable.of_not_not c62
                  have H := H.1 c62
                  refine wp_steps (i' := 54) (ls' := [some (.ref 381), some (.int v21), some (.int x24), some (.int v61)]) (st' := [.int v61]) (h' := h58) (P := True) 1 rfl rfl trivial ?_
                  refine wp_br (P := True) (c := ¬ v61 = 0) (t := 56) (st' := []) rfl rfl trivial (fun c63 => ?_) (fun c63 => ?_)
                  · skip
                    have H := H.2 c63
                    refine wp_steps (i' := 60) (ls' := [some (.ref 381), some (.int v21), some (.int x24), some (.int v61)]) (st' := [.int v21, .int (mx_i h58 381 17), .ref 381]) (h' := h58) (P := ((mxT 381).1 = 11 ∧ mxG h58) ∧ True) 4 rfl rfl ⟨⟨(congrArg Prod.fst sT_381), G60⟩, trivial⟩ ?_
                    have J : ∀ (v64 : Int32) (ev64 : v64 = ((if v21 = 0 then x24 else 0) : Int32)), mx_wp (d + 31) 234 64 [some (.ref 381), some (.int v21), some (.int x24), some (.int v61)] [.int v64, .int (mx_i h58 381 17), .ref 381] h58 Q := by
                      intro v64 ev64
                      have H := H v64 ev64
                      refine wp_steps (i' := 66) (ls' := [some (.ref 381), some (.int v21), some (.int x24), some (.int v61)]) (st' := []) (h' := mx_wi h58 381 17 ((mx_i h58 381 17) + v64)) (P := ((mxT 381).1 = 11 ∧ mxG h58) ∧ True) 2 rfl rfl ⟨⟨(congrArg Prod.fst sT_381), G60⟩, trivial⟩ ?_
                      obtain ⟨h65, e66⟩ : ∃ z9, z9 = mx_wi h58 381 17 ((mx_i h58 381 17) + v64) := ⟨_, rfl⟩
                      rw [← e66]
                      have H := H h65 e66
                      have G67 : mxG h65 := e66 ▸ mxG_wi G60
                      refine wp_steps (i' := 71) (ls' := [some (.ref 381), some (.int v21), some (.int x24), some (.int v61)]) (st' := [.int 1, .int v21, .int (mx_i h65 381 18), .ref 381]) (h' := h65) (P := ((mxT 381).1 = 11 ∧ mxG h65) ∧ True) 5 rfl rfl ⟨⟨(congrArg Prod.fst sT_381), G67⟩, trivial⟩ ?_
                      have J : ∀ (v68 : Int32) (ev68 : v68 = ((if v21 = 1 then x24 else 0) : Int32)), mx_wp (d + 31) 234 75 [some (.ref 381), some (.int v21), some (.int x24), some (.int v61)] [.int v68, .int (mx_i h65 381 18), .ref 381] h65 Q := by
                        intro v68 ev68
                        have H := H v68 ev68
                        refine wp_steps (i' := 77) (ls' := [some (.ref 381), some (.int v21), some (.int x24), some (.int v61)]) (st' := []) (h' := mx_wi h65 381 18 ((mx_i h65 381 18) + v68)) (P := ((mxT 381).1 = 11 ∧ mxG h65) ∧ True) 2 rfl rfl ⟨⟨(congrArg Prod.fst sT_381), G67⟩, trivial⟩ ?_
                        obtain ⟨h69, e70⟩ : ∃ z9, z9 = mx_wi h65 381 18 ((mx_i h65 381 18) + v68) := ⟨_, rfl⟩
                        rw [← e70]
                        have H := H h69 e70
                        have G71 : mxG h69 := e70 ▸ mxG_wi G67
                        refine wp_steps (i' := 82) (ls' := [some (.ref 381), some (.int v21), some (.int x24), some (.int v61)]) (st' := [.int 2, .int v21, .int (mx_i h69 381 19), .ref 381]) (h' := h69) (P := ((mxT 381).1 = 11 ∧ mxG h69) ∧ True) 5 rfl rfl ⟨⟨(congrArg Prod.fst sT_381), G71⟩, trivial⟩ ?_
                        have J : ∀ (v72 : Int32) (ev72 : v72 = ((if v21 = 2 then x24 else 0) : Int32)), mx_wp (d + 31) 234 86 [some (.ref 381), some (.int v21), some (.int x24), some (.int v61)] [.int v72, .int (mx_i h69 381 19), .ref 381] h69 Q := by
                          intro v72 ev72
                          have H := H v72 ev72
                          refine wp_steps (i' := 88) (ls' := [some (.ref 381), some (.int v21), some (.int x24), some (.int v61)]) (st' := []) (h' := mx_wi h69 381 19 ((mx_i h69 381 19) + v72)) (P := ((mxT 381).1 = 11 ∧ mxG h69) ∧ True) 2 rfl rfl ⟨⟨(congrArg Prod.fst sT_381), G71⟩, trivial⟩ ?_
                          obtain ⟨h73, e74⟩ : ∃ z9, z9 = mx_wi h69 381 19 ((mx_i h69 381 19) + v72) := ⟨_, rfl⟩
                          rw [← e74]
                          have H := H h73 e74
                          have G75 : mxG h73 := e74 ▸ mxG_wi G71
                          exact wp_end (o := .inl none) (h' := h73) (P := True) rfl rfl trivial H
                        refine wp_br (P := True) (c := ¬ v21 = 2) (t := 85) (st' := [.int (mx_i h69 381 19), .ref 381]) rfl rfl trivial (fun c76 => ?_) (fun c76 => ?_)
                        · skip
                          refine wp_steps (i' := 86) (ls' := [some (.ref 381), some (.int v21), some (.int x24), some (.int v61)]) (st' := [.int 0, .int (mx_i h69 381 19), .ref 381]) (h' := h69) (P := True) 1 rfl rfl trivial ?_
                          exact J _ (by rw [if_neg c76])
                        · have c76 := Decidable.of_not_not c76
                          refine wp_steps (i' := 84) (ls' := [some (.ref 381), some (.int v21), some (.int x24), some (.int v61)]) (st' := [.int x24, .int (mx_i h69 381 19), .ref 381]) (h' := h69) (P := True) 1 rfl rfl trivial ?_
                          refine wp_J (j := 86) (st' := [.int x24, .int (mx_i h69 381 19), .ref 381]) rfl rfl ?_
                          exact J _ (by rw [if_pos c76])
                      refine wp_br (P := True) (c := ¬ v21 = 1) (t := 74) (st' := [.int (mx_i h65 381 18), .ref 381]) rfl rfl trivial (fun c77 => ?_) (fun c77 => ?_)
                      · skip
                        refine wp_steps (i' := 75) (ls' := [some (.ref 381), some (.int v21), some (.int x24), some (.int v61)]) (st' := [.int 0, .int (mx_i h65 381 18), .ref 381]) (h' := h65) (P := True) 1 rfl rfl trivial ?_
                        exact J _ (by rw [if_neg c77])
                      · have c77 := Decidable.of_not_not c77
                        refine wp_steps (i' := 73) (ls' := [some (.ref 381), some (.int v21), some (.int x24), some (.int v61)]) (st' := [.int x24, .int (mx_i h65 381 18), .ref 381]) (h' := h65) (P := True) 1 rfl rfl trivial ?_
                        refine wp_J (j := 75) (st' := [.int x24, .int (mx_i h65 381 18), .ref 381]) rfl rfl ?_
                        exact J _ (by rw [if_pos c77])
                    refine wp_br (P := True) (c := ¬ v21 = 0) (t := 63) (st' := [.int (mx_i h58 381 17), .ref 381]) rfl rfl trivial (fun c78 => ?_) (fun c78 => ?_)
                    · skip
                      refine wp_steps (i' := 64) (ls' := [some (.ref 381), some (.int v21), some (.int x24), some (.int v61)]) (st' := [.int 0, .int (mx_i h58 381 17), .ref 381]) (h' := h58) (P := True) 1 rfl rfl trivial ?_
                      exact J _ (by rw [if_neg c78])
                    · have c78 := Decidable.of_not_not c78
                      refine wp_steps (i' := 62) (ls' := [some (.ref 381), some (.int v21), some (.int x24), some (.int v61)]) (st' := [.int x24, .int (mx_i h58 381 17), .ref 381]) (h' := h58) (P := True) 1 rfl rfl trivial ?_
                      refine wp_J (j := 64) (st' := [.int x24, .int (mx_i h58 381 17), .ref 381]) rfl rfl ?_
                      exact J _ (by rw [if_pos c78])
                  · have c63 := Decidable.of_not_not c63
                    have H := H.1 c63
                    exact wp_end (o := .inl none) (h' := h58) (P := True) rfl rfl trivial H
              refine wp_br (P := True) (c := x57 = 0) (t := 47) (st' := []) rfl rfl trivial (fun c79 => ?_) (fun c79 => ?_)
              · skip
                refine wp_steps (i' := 48) (ls' := [some (.ref 381), some (.int v21), some (.int x24), none]) (st' := [.int 0]) (h' := h58) (P := True) 1 rfl rfl trivial ?_
                exact J _ (by rw [if_pos c79])
              · skip
                refine wp_steps (i' := 46) (ls' := [some (.ref 381), some (.int v21), some (.int x24), none]) (st' := [.int 1]) (h' := h58) (P := True) 1 rfl rfl trivial ?_
                refine wp_J (j := 48) (st' := [.int 1]) rfl rfl ?_
                exact J _ (by rw [if_neg c79])
          · skip
            have H := H.2 c28
            exact wp_end (o := .inl none) (h' := h25) (P := True) rfl rfl trivial H
        · have c22 := Decidable.of_not_not c22
          have H := H.1 c22
          refine wp_steps (i' := 26) (ls' := [some (.ref 381), some (.int v21), none, none]) (st' := [.int (mx_i h18 381 11), .ref 381]) (h' := h18) (P := ((mxT 381).1 = 11 ∧ mxG h18) ∧ True) 3 rfl rfl ⟨⟨(congrArg Prod.fst sT_381), G20⟩, trivial⟩ ?_
          refine wp_call (b := false) (y' := 213) (as := [.ref 381, .int (mx_i h18 381 11)]) (rest := []) (P := ((mxT 381).1 = mxRc 213 ∧ mxG h18)) rfl (by with_unfolding_all rfl) ⟨(congrArg Prod.fst sT_381), G20⟩ (Nat.le_of_ble_eq_true rfl) (sp_213 G20 ?_)
          show mx_wp (d + 31) 234 27 [some (.ref 381), some (.int v21), none, none] [] (W_213 h18 (mx_i h18 381 11)) Q
          obtain ⟨h80, e81⟩ : ∃ z9, z9 = W_213 h18 (mx_i h18 381 11) := ⟨_, rfl⟩
          rw [← e81]
          have H := H h80 e81
          have K83 : mxK h18 h80 := e81 ▸ KW_213
          have G82 : mxG h80 := mxK_G K83 G20
          exact wp_end (o := .inl none) (h' := h80) (P := True) rfl rfl trivial H
      refine wp_br (P := True) (c := x17 = 0) (t := 18) (st' := []) rfl rfl trivial (fun c84 => ?_) (fun c84 => ?_)
      · skip
        refine wp_steps (i' := 19) (ls' := [some (.ref 381), none, none, none]) (st' := [.int (-1)]) (h' := h18) (P := True) 1 rfl rfl trivial ?_
        exact J _ (by rw [if_pos c84])
      · skip
        refine wp_steps (i' := 17) (ls' := [some (.ref 381), none, none, none]) (st' := [.int 2]) (h' := h18) (P := True) 1 rfl rfl trivial ?_
        refine wp_J (j := 19) (st' := [.int 2]) rfl rfl ?_
        exact J _ (by rw [if_neg c84])
    · skip
      have H := H.2 c14
      refine wp_steps (i' := 11) (ls' := [some (.ref 381), none, none, none]) (st' := [.int 1]) (h' := h11) (P := True) 1 rfl rfl trivial ?_
      refine wp_J (j := 19) (st' := [.int 1]) rfl rfl ?_
      refine wp_steps (i' := 22) (ls' := [some (.ref 381), some (.int 1), none, none]) (st' := [.int (-1), .int 1]) (h' := h11) (P := True) 3 rfl rfl trivial ?_
      refine wp_br (P := True) (c := ¬ (1 : Int32) = (-1)) (t := 28) (st' := []) rfl rfl trivial (fun c85 => ?_) (fun c85 => ?_)
      · skip
        have H := H.2 c85
        refine wp_steps (i' := 31) (ls' := [some (.ref 381), some (.int 1), none, none]) (st' := [.int 99, .int 0, .ref 381]) (h' := h11) (P := True) 3 rfl rfl trivial ?_
        obtain ⟨o86, H⟩ := H
        refine wp_call (b := false) (y' := 215) (as := [.ref 381, .int 0, .int 99]) (rest := []) (P := ((mxT 381).1 = mxRc 215 ∧ mxG h11)) rfl (by with_unfolding_all rfl) ⟨(congrArg Prod.fst sT_381), G13⟩ (Nat.le_of_ble_eq_true rfl) (sp_215 G13 o86 ?_)
        intro x87 h88 p89
        show mx_wp (d + 31) 234 32 [some (.ref 381), some (.int 1), none, none] [.int x87] h88 Q
        have H := H x87 h88 p89
        have G90 : mxG h88 := mxK_G p89.1 G13
        refine wp_steps (i' := 36) (ls' := [some (.ref 381), some (.int 1), some (.int x87), none]) (st' := [.int (-1), .int (mx_i h88 381 12)]) (h' := h88) (P := ((mxT 381).1 = 11 ∧ mxG h88) ∧ True) 4 rfl rfl ⟨⟨(congrArg Prod.fst sT_381), G90⟩, trivial⟩ ?_
        refine wp_br (P := True) (c := (mx_i h88 381 12) = (-1)) (t := 38) (st' := []) rfl rfl trivial (fun c91 => ?_) (fun c91 => ?_)
        · skip
          have H := H.1 c91
          refine wp_steps (i' := 40) (ls' := [some (.ref 381), some (.int 1), some (.int x87), none]) (st' := [.ref 56, .ref 381]) (h' := h88) (P := True) 2 rfl rfl trivial ?_
          obtain ⟨o92, o93, H⟩ := H
          refine wp_call (b := false) (y' := 212) (as := [.ref 381, .ref 56]) (rest := []) (P := ((mxT 381).1 = mxRc 212 ∧ mxG h88)) rfl (by with_unfolding_all rfl) ⟨(congrArg Prod.fst sT_381), G90⟩ (Nat.le_of_ble_eq_true rfl) (sp_212 G90 o92 o93 ?_)
          intro x94 h95 p96
          show mx_wp (d + 31) 234 41 [some (.ref 381), some (.int 1), some (.int x87), none] [.int x94] h95 Q
          have H := H x94 h95 p96
          have G97 : mxG h95 := mxK_G p96.1 G90
          refine wp_br (P := True) (c := x94 = 0) (t := 45) (st' := []) rfl rfl trivial (fun c98 => ?_) (fun c98 => ?_)
          · skip
            have H := H.1 c98
            refine wp_steps (i' := 46) (ls' := [some (.ref 381), some (.int 1), some (.int x87), none]) (st' := [.int 1]) (h' := h95) (P := True) 1 rfl rfl trivial ?_
            refine wp_J (j := 48) (st' := [.int 1]) rfl rfl ?_
            refine wp_steps (i' := 52) (ls' := [some (.ref 381), some (.int 1), some (.int x87), some (.int 1)]) (st' := [.int (-1), .int (mx_i h95 381 12)]) (h' := h95) (P := ((mxT 381).1 = 11 ∧ mxG h95) ∧ True) 4 rfl rfl ⟨⟨(congrArg Prod.fst sT_381), G97⟩, trivial⟩ ?_
            refine wp_br (P := True) (c := ¬ (mx_i h95 381 12) = (-1)) (t := 55) (st' := []) rfl rfl trivial (fun c99 => ?_) (fun c99 => ?_)
            · skip
              have H := H.2 c99
              exact wp_end (o := .inl none) (h' := h95) (P := True) rfl rfl trivial H
            · have c99 := Decidable.of_not_not c99
              have H := H.1 c99
              refine wp_steps (i' := 54) (ls' := [some (.ref 381), some (.int 1), some (.int x87), some (.int 1)]) (st' := [.int 1]) (h' := h95) (P := True) 1 rfl rfl trivial ?_
              refine wp_br (P := True) (c := ¬ (1 : Int32) = 0) (t := 56) (st' := []) rfl rfl trivial (fun c100 => ?_) (fun c100 => ?_)
              · skip
                have H := H.2 c100
                refine wp_steps (i' := 60) (ls' := [some (.ref 381), some (.int 1), some (.int x87), some (.int 1)]) (st' := [.int 1, .int (mx_i h95 381 17), .ref 381]) (h' := h95) (P := ((mxT 381).1 = 11 ∧ mxG h95) ∧ True) 4 rfl rfl ⟨⟨(congrArg Prod.fst sT_381), G97⟩, trivial⟩ ?_
                have J : ∀ (v101 : Int32) (ev101 : v101 = ((if (1 : Int32) = 0 then x87 else 0) : Int32)), mx_wp (d + 31) 234 64 [some (.ref 381), some (.int 1), some (.int x87), some (.int 1)] [.int v101, .int (mx_i h95 381 17), .ref 381] h95 Q := by
                  intro v101 ev101
                  have H := H v101 ev101
                  refine wp_steps (i' := 66) (ls' := [some (.ref 381), some (.int 1), some (.int x87), some (.int 1)]) (st' := []) (h' := mx_wi h95 381 17 ((mx_i h95 381 17) + v101)) (P := ((mxT 381).1 = 11 ∧ mxG h95) ∧ True) 2 rfl rfl ⟨⟨(congrArg Prod.fst sT_381), G97⟩, trivial⟩ ?_
                  obtain ⟨h102, e103⟩ : ∃ z9, z9 = mx_wi h95 381 17 ((mx_i h95 381 17) + v101) := ⟨_, rfl⟩
                  rw [← e103]
                  have H := H h102 e103
                  have G104 : mxG h102 := e103 ▸ mxG_wi G97
                  refine wp_steps (i' := 71) (ls' := [some (.ref 381), some (.int 1), some (.int x87), some (.int 1)]) (st' := [.int 1, .int 1, .int (mx_i h102 381 18), .ref 381]) (h' := h102) (P := ((mxT 381).1 = 11 ∧ mxG h102) ∧ True) 5 rfl rfl ⟨⟨(congrArg Prod.fst sT_381), G104⟩, trivial⟩ ?_
                  have J : ∀ (v105 : Int32) (ev105 : v105 = ((if (1 : Int32) = 1 then x87 else 0) : Int32)), mx_wp (d + 31) 234 75 [some (.ref 381), some (.int 1), some (.int x87), some (.int 1)] [.int v105, .int (mx_i h102 381 18), .ref 381] h102 Q := by
                    intro v105 ev105
                    have H := H v105 ev105
                    refine wp_steps (i' := 77) (ls' := [some (.ref 381), some (.int 1), some (.int x87), some (.int 1)]) (st' := []) (h' := mx_wi h102 381 18 ((mx_i h102 381 18) + v105)) (P := ((mxT 381).1 = 11 ∧ mxG h102) ∧ True) 2 rfl rfl ⟨⟨(congrArg Prod.fst sT_381), G104⟩, trivial⟩ ?_
                    obtain ⟨h106, e107⟩ : ∃ z9, z9 = mx_wi h102 381 18 ((mx_i h102 381 18) + v105) := ⟨_, rfl⟩
                    rw [← e107]
                    have H := H h106 e107
                    have G108 : mxG h106 := e107 ▸ mxG_wi G104
                    refine wp_steps (i' := 82) (ls' := [some (.ref 381), some (.int 1), some (.int x87), some (.int 1)]) (st' := [.int 2, .int 1, .int (mx_i h106 381 19), .ref 381]) (h' := h106) (P := ((mxT 381).1 = 11 ∧ mxG h106) ∧ True) 5 rfl rfl ⟨⟨(congrArg Prod.fst sT_381), G108⟩, trivial⟩ ?_
                    have J : ∀ (v109 : Int32) (ev109 : v109 = ((if (1 : Int32) = 2 then x87 else 0) : Int32)), mx_wp (d + 31) 234 86 [some (.ref 381), some (.int 1), some (.int x87), some (.int 1)] [.int v109, .int (mx_i h106 381 19), .ref 381] h106 Q := by
                      intro v109 ev109
                      have H := H v109 ev109
                      refine wp_steps (i' := 88) (ls' := [some (.ref 381), some (.int 1), some (.int x87), some (.int 1)]) (st' := []) (h' := mx_wi h106 381 19 ((mx_i h106 381 19) + v109)) (P := ((mxT 381).1 = 11 ∧ mxG h106) ∧ True) 2 rfl rfl ⟨⟨(congrArg Prod.fst sT_381), G108⟩, trivial⟩ ?_
                      obtain ⟨h110, e111⟩ : ∃ z9, z9 = mx_wi h106 381 19 ((mx_i h106 381 19) + v109) := ⟨_, rfl⟩
                      rw [← e111]
                      have H := H h110 e111
                      have G112 : mxG h110 := e111 ▸ mxG_wi G108
                      exact wp_end (o := .inl none) (h' := h110) (P := True) rfl rfl trivial H
                    refine wp_br (P := True) (c := ¬ (1 : Int32) = 2) (t := 85) (st' := [.int (mx_i h106 381 19), .ref 381]) rfl rfl trivial (fun c113 => ?_) (fun c113 => ?_)
                    · skip
                      refine wp_steps (i' := 86) (ls' := [some (.ref 381), some (.int 1), some (.int x87), some (.int 1)]) (st' := [.int 0, .int (mx_i h106 381 19), .ref 381]) (h' := h106) (P := True) 1 rfl rfl trivial ?_
                      exact J _ (by rw [if_neg c113])
                    · have c113 := Decidable.of_not_not c113
                      refine wp_steps (i' := 84) (ls' := [some (.ref 381), some (.int 1), some (.int x87), some (.int 1)]) (st' := [.int x87, .int (mx_i h106 381 19), .ref 381]) (h' := h106) (P := True) 1 rfl rfl trivial ?_
                      refine wp_J (j := 86) (st' := [.int x87, .int (mx_i h106 381 19), .ref 381]) rfl rfl ?_
                      exact J _ (by rw [if_pos c113])
                  refine wp_br (P := True) (c := ¬ (1 : Int32) = 1) (t := 74) (st' := [.int (mx_i h102 381 18), .ref 381]) rfl rfl trivial (fun c114 => ?_) (fun c114 => ?_)
                  · skip
                    refine wp_steps (i' := 75) (ls' := [some (.ref 381), some (.int 1), some (.int x87), some (.int 1)]) (st' := [.int 0, .int (mx_i h102 381 18), .ref 381]) (h' := h102) (P := True) 1 rfl rfl trivial ?_
                    exact J _ (by rw [if_neg c114])
                  · have c114 := Decidable.of_not_not c114
                    refine wp_steps (i' := 73) (ls' := [some (.ref 381), some (.int 1), some (.int x87), some (.int 1)]) (st' := [.int x87, .int (mx_i h102 381 18), .ref 381]) (h' := h102) (P := True) 1 rfl rfl trivial ?_
                    refine wp_J (j := 75) (st' := [.int x87, .int (mx_i h102 381 18), .ref 381]) rfl rfl ?_
                    exact J _ (by rw [if_pos c114])
                refine wp_br (P := True) (c := ¬ (1 : Int32) = 0) (t := 63) (st' := [.int (mx_i h95 381 17), .ref 381]) rfl rfl trivial (fun c115 => ?_) (fun c115 => ?_)
                · skip
                  refine wp_steps (i' := 64) (ls' := [some (.ref 381), some (.int 1), some (.int x87), some (.int 1)]) (st' := [.int 0, .int (mx_i h95 381 17), .ref 381]) (h' := h95) (P := True) 1 rfl rfl trivial ?_
                  exact J _ (by rw [if_neg c115])
                · have c115 := Decidable.of_not_not c115
                  refine wp_steps (i' := 62) (ls' := [some (.ref 381), some (.int 1), some (.int x87), some (.int 1)]) (st' := [.int x87, .int (mx_i h95 381 17), .ref 381]) (h' := h95) (P := True) 1 rfl rfl trivial ?_
                  refine wp_J (j := 64) (st' := [.int x87, .int (mx_i h95 381 17), .ref 381]) rfl rfl ?_
                  exact J _ (by rw [if_pos c115])
              · have c100 := Decidable.of_not_not c100
                have H := H.1 c100
                exact wp_end (o := .inl none) (h' := h95) (P := True) rfl rfl trivial H
          · skip
            have H := H.2 c98
            refine wp_steps (i' := 43) (ls' := [some (.ref 381), some (.int 1), some (.int x87), none]) (st' := [.ref 381]) (h' := h95) (P := True) 1 rfl rfl trivial ?_
            obtain ⟨o116, o117, o118, o119, H⟩ := H
            refine wp_call (b := false) (y' := 233) (as := [.ref 381]) (rest := []) (P := ((mxT 381).1 = mxRc 233 ∧ mxG h95)) rfl (by with_unfolding_all rfl) ⟨(congrArg Prod.fst sT_381), G97⟩ (Nat.le_of_ble_eq_true rfl) (sp_233 G97 o116 o117 o118 o119 ?_)
            intro x120 h121 p122
            show mx_wp (d + 31) 234 44 [some (.ref 381), some (.int 1), some (.int x87), none] [.int x120] h121 Q
            have H := H x120 h121 p122
            have G123 : mxG h121 := mxK_G p122.1 G97
            have J : ∀ (v124 : Int32) (ev124 : v124 = ((if x120 = 0 then 0 else 1) : Int32)), mx_wp (d + 31) 234 48 [some (.ref 381), some (.int 1), some (.int x87), none] [.int v124] h121 Q := by
              intro v124 ev124
              have H := H v124 ev124
              refine wp_steps (i' := 52) (ls' := [some (.ref 381), some (.int 1), some (.int x87), some (.int v124)]) (st' := [.int (-1), .int (mx_i h121 381 12)]) (h' := h121) (P := ((mxT 381).1 = 11 ∧ mxG h121) ∧ True) 4 rfl rfl ⟨⟨(congrArg Prod.fst sT_381), G123⟩, trivial⟩ ?_
              refine wp_br (P := True) (c := ¬ (mx_i h121 381 12) = (-1)) (t := 55) (st' := []) rfl rfl trivial (fun c125 => ?_) (fun c125 => ?_)
              · skip
                have H := H.2 c125
                exact wp_end (o := .inl none) (h' := h121) (P := True) rfl rfl trivial H
              · have c125 := Decidable.of_not_not c125
                have H := H.1 c125
                refine wp_steps (i' := 54) (ls' := [some (.ref 381), some (.int 1), some (.int x87), some (.int v124)]) (st' := [.int v124]) (h' := h121) (P := True) 1 rfl rfl trivial ?_
                refine wp_br (P := True) (c := ¬ v124 = 0) (t := 56) (st' := []) rfl rfl trivial (fun c126 => ?_) (fun c126 => ?_)
                · skip
                  have H := H.2 c126
                  refine wp_steps (i' := 60) (ls' := [some (.ref 381), some (.int 1), some (.int x87), some (.int v124)]) (st' := [.int 1, .int (mx_i h121 381 17), .ref 381]) (h' := h121) (P := ((mxT 381).1 = 11 ∧ mxG h121) ∧ True) 4 rfl rfl ⟨⟨(congrArg Prod.fst sT_381), G123⟩, trivial⟩ ?_
                  have J : ∀ (v127 : Int32) (ev127 : v127 = ((if (1 : Int32) = 0 then x87 else 0) : Int32)), mx_wp (d + 31) 234 64 [some (.ref 381), some (.int 1), some (.int x87), some (.int v124)] [.int v127, .int (mx_i h121 381 17), .ref 381] h121 Q := by
                    intro v127 ev127
                    have H := H v127 ev127
                    refine wp_steps (i' := 66) (ls' := [some (.ref 381), some (.int 1), some (.int x87), some (.int v124)]) (st' := []) (h' := mx_wi h121 381 17 ((mx_i h121 381 17) + v127)) (P := ((mxT 381).1 = 11 ∧ mxG h121) ∧ True) 2 rfl rfl ⟨⟨(congrArg Prod.fst sT_381), G123⟩, trivial⟩ ?_
                    obtain ⟨h128, e129⟩ : ∃ z9, z9 = mx_wi h121 381 17 ((mx_i h121 381 17) + v127) := ⟨_, rfl⟩
                    rw [← e129]
                    have H := H h128 e129
                    have G130 : mxG h128 := e129 ▸ mxG_wi G123
                    refine wp_steps (i' := 71) (ls' := [some (.ref 381), some (.int 1), some (.int x87), some (.int v124)]) (st' := [.int 1, .int 1, .int (mx_i h128 381 18), .ref 381]) (h' := h128) (P := ((mxT 381).1 = 11 ∧ mxG h128) ∧ True) 5 rfl rfl ⟨⟨(congrArg Prod.fst sT_381), G130⟩, trivial⟩ ?_
                    have J : ∀ (v131 : Int32) (ev131 : v131 = ((if (1 : Int32) = 1 then x87 else 0) : Int32)), mx_wp (d + 31) 234 75 [some (.ref 381), some (.int 1), some (.int x87), some (.int v124)] [.int v131, .int (mx_i h128 381 18), .ref 381] h128 Q := by
                      intro v131 ev131
                      have H := H v131 ev131
                      refine wp_steps (i' := 77) (ls' := [some (.ref 381), some (.int 1), some (.int x87), some (.int v124)]) (st' := []) (h' := mx_wi h128 381 18 ((mx_i h128 381 18) + v131)) (P := ((mxT 381).1 = 11 ∧ mxG h128) ∧ True) 2 rfl rfl ⟨⟨(congrArg Prod.fst sT_381), G130⟩, trivial⟩ ?_
                      obtain ⟨h132, e133⟩ : ∃ z9, z9 = mx_wi h128 381 18 ((mx_i h128 381 18) + v131) := ⟨_, rfl⟩
                      rw [← e133]
                      have H := H h132 e133
                      have G134 : mxG h132 := e133 ▸ mxG_wi G130
                      refine wp_steps (i' := 82) (ls' := [some (.ref 381), some (.int 1), some (.int x87), some (.int v124)]) (st' := [.int 2, .int 1, .int (mx_i h132 381 19), .ref 381]) (h' := h132) (P := ((mxT 381).1 = 11 ∧ mxG h132) ∧ True) 5 rfl rfl ⟨⟨(congrArg Prod.fst sT_381), G134⟩, trivial⟩ ?_
                      have J : ∀ (v135 : Int32) (ev135 : v135 = ((if (1 : Int32) = 2 then x87 else 0) : Int32)), mx_wp (d + 31) 234 86 [some (.ref 381), some (.int 1), some (.int x87), some (.int v124)] [.int v135, .int (mx_i h132 381 19), .ref 381] h132 Q := by
                        intro v135 ev135
                        have H := H v135 ev135
                        refine wp_steps (i' := 88) (ls' := [some (.ref 381), some (.int 1), some (.int x87), some (.int v124)]) (st' := []) (h' := mx_wi h132 381 19 ((mx_i h132 381 19) + v135)) (P := ((mxT 381).1 = 11 ∧ mxG h132) ∧ True) 2 rfl rfl ⟨⟨(congrArg Prod.fst sT_381), G134⟩, trivial⟩ ?_
                        obtain ⟨h136, e137⟩ : ∃ z9, z9 = mx_wi h132 381 19 ((mx_i h132 381 19) + v135) := ⟨_, rfl⟩
                        rw [← e137]
                        have H := H h136 e137
                        have G138 : mxG h136 := e137 ▸ mxG_wi G134
                        exact wp_end (o := .inl none) (h' := h136) (P := True) rfl rfl trivial H
                      refine wp_br (P := True) (c := ¬ (1 : Int32) = 2) (t := 85) (st' := [.int (mx_i h132 381 19), .ref 381]) rfl rfl trivial (fun c139 => ?_) (fun c139 => ?_)
                      · skip
                        refine wp_steps (i' := 86) (ls' := [some (.ref 381), some (.int 1), some (.int x87), some (.int v124)]) (st' := [.int 0, .int (mx_i h132 381 19), .ref 381]) (h' := h132) (P := True) 1 rfl rfl trivial ?_
                        exact J _ (by rw [if_neg c139])
                      · have c139 := Decidable.of_not_not c139
                        refine wp_steps (i' := 84) (ls' := [some (.ref 381), some (.int 1), some (.int x87), some (.int v124)]) (st' := [.int x87, .int (mx_i h132 381 19), .ref 381]) (h' := h132) (P := True) 1 rfl rfl trivial ?_
                        refine wp_J (j := 86) (st' := [.int x87, .int (mx_i h132 381 19), .ref 381]) rfl rfl ?_
                        exact J _ (by rw [if_pos c139])
                    refine wp_br (P := True) (c := ¬ (1 : Int32) = 1) (t := 74) (st' := [.int (mx_i h128 381 18), .ref 381]) rfl rfl trivial (fun c140 => ?_) (fun c140 => ?_)
                    · skip
                      refine wp_steps (i' := 75) (ls' := [some (.ref 381), some (.int 1), some (.int x87), some (.int v124)]) (st' := [.int 0, .int (mx_i h128 381 18), .ref 381]) (h' := h128) (P := True) 1 rfl rfl trivial ?_
                      exact J _ (by rw [if_neg c140])
                    · have c140 := Decidable.of_not_not c140
                      refine wp_steps (i' := 73) (ls' := [some (.ref 381), some (.int 1), some (.int x87), some (.int v124)]) (st' := [.int x87, .int (mx_i h128 381 18), .ref 381]) (h' := h128) (P := True) 1 rfl rfl trivial ?_
                      refine wp_J (j := 75) (st' := [.int x87, .int (mx_i h128 381 18), .ref 381]) rfl rfl ?_
                      exact J _ (by rw [if_pos c140])
                  refine wp_br (P := True) (c := ¬ (1 : Int32) = 0) (t := 63) (st' := [.int (mx_i h121 381 17), .ref 381]) rfl rfl trivial (fun c141 => ?_) (fun c141 => ?_)
                  · skip
                    refine wp_steps (i' := 64) (ls' := [some (.ref 381), some (.int 1), some (.int x87), some (.int v124)]) (st' := [.int 0, .int (mx_i h121 381 17), .ref 381]) (h' := h121) (P := True) 1 rfl rfl trivial ?_
                    exact J _ (by rw [if_neg c141])
                  · have c141 := Decidable.of_not_not c141
                    refine wp_steps (i' := 62) (ls' := [some (.ref 381), some (.int 1), some (.int x87), some (.int v124)]) (st' := [.int x87, .int (mx_i h121 381 17), .ref 381]) (h' := h121) (P := True) 1 rfl rfl trivial ?_
                    refine wp_J (j := 64) (st' := [.int x87, .int (mx_i h121 381 17), .ref 381]) rfl rfl ?_
                    exact J _ (by rw [if_pos c141])
                · have c126 := Decidable.of_not_not c126
                  have H := H.1 c126
                  exact wp_end (o := .inl none) (h' := h121) (P := True) rfl rfl trivial H
            refine wp_br (P := True) (c := x120 = 0) (t := 47) (st' := []) rfl rfl trivial (fun c142 => ?_) (fun c142 => ?_)
            · skip
              refine wp_steps (i' := 48) (ls' := [some (.ref 381), some (.int 1), some (.int x87), none]) (st' := [.int 0]) (h' := h121) (P := True) 1 rfl rfl trivial ?_
              exact J _ (by rw [if_pos c142])
            · skip
              refine wp_steps (i' := 46) (ls' := [some (.ref 381), some (.int 1), some (.int x87), none]) (st' := [.int 1]) (h' := h121) (P := True) 1 rfl rfl trivial ?_
              refine wp_J (j := 48) (st' := [.int 1]) rfl rfl ?_
              exact J _ (by rw [if_neg c142])
        · skip
          have H := H.2 c91
          exact wp_end (o := .inl none) (h' := h88) (P := True) rfl rfl trivial H
      · have c85 := Decidable.of_not_not c85
        have H := H.1 c85
        refine wp_steps (i' := 26) (ls' := [some (.ref 381), some (.int 1), none, none]) (st' := [.int (mx_i h11 381 11), .ref 381]) (h' := h11) (P := ((mxT 381).1 = 11 ∧ mxG h11) ∧ True) 3 rfl rfl ⟨⟨(congrArg Prod.fst sT_381), G13⟩, trivial⟩ ?_
        refine wp_call (b := false) (y' := 213) (as := [.ref 381, .int (mx_i h11 381 11)]) (rest := []) (P := ((mxT 381).1 = mxRc 213 ∧ mxG h11)) rfl (by with_unfolding_all rfl) ⟨(congrArg Prod.fst sT_381), G13⟩ (Nat.le_of_ble_eq_true rfl) (sp_213 G13 ?_)
        show mx_wp (d + 31) 234 27 [some (.ref 381), some (.int 1), none, none] [] (W_213 h11 (mx_i h11 381 11)) Q
        obtain ⟨h143, e144⟩ : ∃ z9, z9 = W_213 h11 (mx_i h11 381 11) := ⟨_, rfl⟩
        rw [← e144]
        have H := H h143 e144
        have K146 : mxK h11 h143 := e144 ▸ KW_213
        have G145 : mxG h143 := mxK_G K146 G13
        exact wp_end (o := .inl none) (h' := h143) (P := True) rfl rfl trivial H
  · skip
    have H := H.2 c7
    refine wp_steps (i' := 5) (ls' := [some (.ref 381), none, none, none]) (st' := [.int 0]) (h' := h4) (P := True) 1 rfl rfl trivial ?_
    refine wp_J (j := 19) (st' := [.int 0]) rfl rfl ?_
    refine wp_steps (i' := 22) (ls' := [some (.ref 381), some (.int 0), none, none]) (st' := [.int (-1), .int 0]) (h' := h4) (P := True) 3 rfl rfl trivial ?_
    refine wp_br (P := True) (c := ¬ (0 : Int32) = (-1)) (t := 28) (st' := []) rfl rfl trivial (fun c147 => ?_) (fun c147 => ?_)
    · skip
      have H := H.2 c147
      refine wp_steps (i' := 31) (ls' := [some (.ref 381), some (.int 0), none, none]) (st' := [.int 99, .int 0, .ref 381]) (h' := h4) (P := True) 3 rfl rfl trivial ?_
      obtain ⟨o148, H⟩ := H
      refine wp_call (b := false) (y' := 215) (as := [.ref 381, .int 0, .int 99]) (rest := []) (P := ((mxT 381).1 = mxRc 215 ∧ mxG h4)) rfl (by with_unfolding_all rfl) ⟨(congrArg Prod.fst sT_381), G6⟩ (Nat.le_of_ble_eq_true rfl) (sp_215 G6 o148 ?_)
      intro x149 h150 p151
      show mx_wp (d + 31) 234 32 [some (.ref 381), some (.int 0), none, none] [.int x149] h150 Q
      have H := H x149 h150 p151
      have G152 : mxG h150 := mxK_G p151.1 G6
      refine wp_steps (i' := 36) (ls' := [some (.ref 381), some (.int 0), some (.int x149), none]) (st' := [.int (-1), .int (mx_i h150 381 12)]) (h' := h150) (P := ((mxT 381).1 = 11 ∧ mxG h150) ∧ True) 4 rfl rfl ⟨⟨(congrArg Prod.fst sT_381), G152⟩, trivial⟩ ?_
      refine wp_br (P := True) (c := (mx_i h150 381 12) = (-1)) (t := 38) (st' := []) rfl rfl trivial (fun c153 => ?_) (fun c153 => ?_)
      · skip
        have H := H.1 c153
        refine wp_steps (i' := 40) (ls' := [some (.ref 381), some (.int 0), some (.int x149), none]) (st' := [.ref 56, .ref 381]) (h' := h150) (P := True) 2 rfl rfl trivial ?_
        obtain ⟨o154, o155, H⟩ := H
        refine wp_call (b := false) (y' := 212) (as := [.ref 381, .ref 56]) (rest := []) (P := ((mxT 381).1 = mxRc 212 ∧ mxG h150)) rfl (by with_unfolding_all rfl) ⟨(congrArg Prod.fst sT_381), G152⟩ (Nat.le_of_ble_eq_true rfl) (sp_212 G152 o154 o155 ?_)
        intro x156 h157 p158
        show mx_wp (d + 31) 234 41 [some (.ref 381), some (.int 0), some (.int x149), none] [.int x156] h157 Q
        have H := H x156 h157 p158
        have G159 : mxG h157 := mxK_G p158.1 G152
        refine wp_br (P := True) (c := x156 = 0) (t := 45) (st' := []) rfl rfl trivial (fun c160 => ?_) (fun c160 => ?_)
        · skip
          have H := H.1 c160
          refine wp_steps (i' := 46) (ls' := [some (.ref 381), some (.int 0), some (.int x149), none]) (st' := [.int 1]) (h' := h157) (P := True) 1 rfl rfl trivial ?_
          refine wp_J (j := 48) (st' := [.int 1]) rfl rfl ?_
          refine wp_steps (i' := 52) (ls' := [some (.ref 381), some (.int 0), some (.int x149), some (.int 1)]) (st' := [.int (-1), .int (mx_i h157 381 12)]) (h' := h157) (P := ((mxT 381).1 = 11 ∧ mxG h157) ∧ True) 4 rfl rfl ⟨⟨(congrArg Prod.fst sT_381), G159⟩, trivial⟩ ?_
          refine wp_br (P := True) (c := ¬ (mx_i h157 381 12) = (-1)) (t := 55) (st' := []) rfl rfl trivial (fun c161 => ?_) (fun c161 => ?_)
          · skip
            have H := H.2 c161
            exact wp_end (o := .inl none) (h' := h157) (P := True) rfl rfl trivial H
          · have c161 := Decidable.of_not_not c161
            have H := H.1 c161
            refine wp_steps (i' := 54) (ls' := [some (.ref 381), some (.int 0), some (.int x149), some (.int 1)]) (st' := [.int 1]) (h' := h157) (P := True) 1 rfl rfl trivial ?_
            refine wp_br (P := True) (c := ¬ (1 : Int32) = 0) (t := 56) (st' := []) rfl rfl trivial (fun c162 => ?_) (fun c162 => ?_)
            · skip
              have H := H.2 c162
              refine wp_steps (i' := 60) (ls' := [some (.ref 381), some (.int 0), some (.int x149), some (.int 1)]) (st' := [.int 0, .int (mx_i h157 381 17), .ref 381]) (h' := h157) (P := ((mxT 381).1 = 11 ∧ mxG h157) ∧ True) 4 rfl rfl ⟨⟨(congrArg Prod.fst sT_381), G159⟩, trivial⟩ ?_
              have J : ∀ (v163 : Int32) (ev163 : v163 = ((if (0 : Int32) = 0 then x149 else 0) : Int32)), mx_wp (d + 31) 234 64 [some (.ref 381), some (.int 0), some (.int x149), some (.int 1)] [.int v163, .int (mx_i h157 381 17), .ref 381] h157 Q := by
                intro v163 ev163
                have H := H v163 ev163
                refine wp_steps (i' := 66) (ls' := [some (.ref 381), some (.int 0), some (.int x149), some (.int 1)]) (st' := []) (h' := mx_wi h157 381 17 ((mx_i h157 381 17) + v163)) (P := ((mxT 381).1 = 11 ∧ mxG h157) ∧ True) 2 rfl rfl ⟨⟨(congrArg Prod.fst sT_381), G159⟩, trivial⟩ ?_
                obtain ⟨h164, e165⟩ : ∃ z9, z9 = mx_wi h157 381 17 ((mx_i h157 381 17) + v163) := ⟨_, rfl⟩
                rw [← e165]
                have H := H h164 e165
                have G166 : mxG h164 := e165 ▸ mxG_wi G159
                refine wp_steps (i' := 71) (ls' := [some (.ref 381), some (.int 0), some (.int x149), some (.int 1)]) (st' := [.int 1, .int 0, .int (mx_i h164 381 18), .ref 381]) (h' := h164) (P := ((mxT 381).1 = 11 ∧ mxG h164) ∧ True) 5 rfl rfl ⟨⟨(congrArg Prod.fst sT_381), G166⟩, trivial⟩ ?_
                have J : ∀ (v167 : Int32) (ev167 : v167 = ((if (0 : Int32) = 1 then x149 else 0) : Int32)), mx_wp (d + 31) 234 75 [some (.ref 381), some (.int 0), some (.int x149), some (.int 1)] [.int v167, .int (mx_i h164 381 18), .ref 381] h164 Q := by
                  intro v167 ev167
                  have H := H v167 ev167
                  refine wp_steps (i' := 77) (ls' := [some (.ref 381), some (.int 0), some (.int x149), some (.int 1)]) (st' := []) (h' := mx_wi h164 381 18 ((mx_i h164 381 18) + v167)) (P := ((mxT 381).1 = 11 ∧ mxG h164) ∧ True) 2 rfl rfl ⟨⟨(congrArg Prod.fst sT_381), G166⟩, trivial⟩ ?_
                  obtain ⟨h168, e169⟩ : ∃ z9, z9 = mx_wi h164 381 18 ((mx_i h164 381 18) + v167) := ⟨_, rfl⟩
                  rw [← e169]
                  have H := H h168 e169
                  have G170 : mxG h168 := e169 ▸ mxG_wi G166
                  refine wp_steps (i' := 82) (ls' := [some (.ref 381), some (.int 0), some (.int x149), some (.int 1)]) (st' := [.int 2, .int 0, .int (mx_i h168 381 19), .ref 381]) (h' := h168) (P := ((mxT 381).1 = 11 ∧ mxG h168) ∧ True) 5 rfl rfl ⟨⟨(congrArg Prod.fst sT_381), G170⟩, trivial⟩ ?_
                  have J : ∀ (v171 : Int32) (ev171 : v171 = ((if (0 : Int32) = 2 then x149 else 0) : Int32)), mx_wp (d + 31) 234 86 [some (.ref 381), some (.int 0), some (.int x149), some (.int 1)] [.int v171, .int (mx_i h168 381 19), .ref 381] h168 Q := by
                    intro v171 ev171
                    have H := H v171 ev171
                    refine wp_steps (i' := 88) (ls' := [some (.ref 381), some (.int 0), some (.int x149), some (.int 1)]) (st' := []) (h' := mx_wi h168 381 19 ((mx_i h168 381 19) + v171)) (P := ((mxT 381).1 = 11 ∧ mxG h168) ∧ True) 2 rfl rfl ⟨⟨(congrArg Prod.fst sT_381), G170⟩, trivial⟩ ?_
                    obtain ⟨h172, e173⟩ : ∃ z9, z9 = mx_wi h168 381 19 ((mx_i h168 381 19) + v171) := ⟨_, rfl⟩
                    rw [← e173]
                    have H := H h172 e173
                    have G174 : mxG h172 := e173 ▸ mxG_wi G170
                    exact wp_end (o := .inl none) (h' := h172) (P := True) rfl rfl trivial H
                  refine wp_br (P := True) (c := ¬ (0 : Int32) = 2) (t := 85) (st' := [.int (mx_i h168 381 19), .ref 381]) rfl rfl trivial (fun c175 => ?_) (fun c175 => ?_)
                  · skip
                    refine wp_steps (i' := 86) (ls' := [some (.ref 381), some (.int 0), some (.int x149), some (.int 1)]) (st' := [.int 0, .int (mx_i h168 381 19), .ref 381]) (h' := h168) (P := True) 1 rfl rfl trivial ?_
                    exact J _ (by rw [if_neg c175])
                  · have c175 := Decidable.of_not_not c175
                    refine wp_steps (i' := 84) (ls' := [some (.ref 381), some (.int 0), some (.int x149), some (.int 1)]) (st' := [.int x149, .int (mx_i h168 381 19), .ref 381]) (h' := h168) (P := True) 1 rfl rfl trivial ?_
                    refine wp_J (j := 86) (st' := [.int x149, .int (mx_i h168 381 19), .ref 381]) rfl rfl ?_
                    exact J _ (by rw [if_pos c175])
                refine wp_br (P := True) (c := ¬ (0 : Int32) = 1) (t := 74) (st' := [.int (mx_i h164 381 18), .ref 381]) rfl rfl trivial (fun c176 => ?_) (fun c176 => ?_)
                · skip
                  refine wp_steps (i' := 75) (ls' := [some (.ref 381), some (.int 0), some (.int x149), some (.int 1)]) (st' := [.int 0, .int (mx_i h164 381 18), .ref 381]) (h' := h164) (P := True) 1 rfl rfl trivial ?_
                  exact J _ (by rw [if_neg c176])
                · have c176 := Decidable.of_not_not c176
                  refine wp_steps (i' := 73) (ls' := [some (.ref 381), some (.int 0), some (.int x149), some (.int 1)]) (st' := [.int x149, .int (mx_i h164 381 18), .ref 381]) (h' := h164) (P := True) 1 rfl rfl trivial ?_
                  refine wp_J (j := 75) (st' := [.int x149, .int (mx_i h164 381 18), .ref 381]) rfl rfl ?_
                  exact J _ (by rw [if_pos c176])
              refine wp_br (P := True) (c := ¬ (0 : Int32) = 0) (t := 63) (st' := [.int (mx_i h157 381 17), .ref 381]) rfl rfl trivial (fun c177 => ?_) (fun c177 => ?_)
              · skip
                refine wp_steps (i' := 64) (ls' := [some (.ref 381), some (.int 0), some (.int x149), some (.int 1)]) (st' := [.int 0, .int (mx_i h157 381 17), .ref 381]) (h' := h157) (P := True) 1 rfl rfl trivial ?_
                exact J _ (by rw [if_neg c177])
              · have c177 := Decidable.of_not_not c177
                refine wp_steps (i' := 62) (ls' := [some (.ref 381), some (.int 0), some (.int x149), some (.int 1)]) (st' := [.int x149, .int (mx_i h157 381 17), .ref 381]) (h' := h157) (P := True) 1 rfl rfl trivial ?_
                refine wp_J (j := 64) (st' := [.int x149, .int (mx_i h157 381 17), .ref 381]) rfl rfl ?_
                exact J _ (by rw [if_pos c177])
            · have c162 := Decidable.of_not_not c162
              have H := H.1 c162
              exact wp_end (o := .inl none) (h' := h157) (P := True) rfl rfl trivial H
        · skip
          have H := H.2 c160
          refine wp_steps (i' := 43) (ls' := [some (.ref 381), some (.int 0), some (.int x149), none]) (st' := [.ref 381]) (h' := h157) (P := True) 1 rfl rfl trivial ?_
          obtain ⟨o178, o179, o180, o181, H⟩ := H
          refine wp_call (b := false) (y' := 233) (as := [.ref 381]) (rest := []) (P := ((mxT 381).1 = mxRc 233 ∧ mxG h157)) rfl (by with_unfolding_all rfl) ⟨(congrArg Prod.fst sT_381), G159⟩ (Nat.le_of_ble_eq_true rfl) (sp_233 G159 o178 o179 o180 o181 ?_)
          intro x182 h183 p184
          show mx_wp (d + 31) 234 44 [some (.ref 381), some (.int 0), some (.int x149), none] [.int x182] h183 Q
          have H := H x182 h183 p184
          have G185 : mxG h183 := mxK_G p184.1 G159
          have J : ∀ (v186 : Int32) (ev186 : v186 = ((if x182 = 0 then 0 else 1) : Int32)), mx_wp (d + 31) 234 48 [some (.ref 381), some (.int 0), some (.int x149), none] [.int v186] h183 Q := by
            intro v186 ev186
            have H := H v186 ev186
            refine wp_steps (i' := 52) (ls' := [some (.ref 381), some (.int 0), some (.int x149), some (.int v186)]) (st' := [.int (-1), .int (mx_i h183 381 12)]) (h' := h183) (P := ((mxT 381).1 = 11 ∧ mxG h183) ∧ True) 4 rfl rfl ⟨⟨(congrArg Prod.fst sT_381), G185⟩, trivial⟩ ?_
            refine wp_br (P := True) (c := ¬ (mx_i h183 381 12) = (-1)) (t := 55) (st' := []) rfl rfl trivial (fun c187 => ?_) (fun c187 => ?_)
            · skip
              have H := H.2 c187
              exact wp_end (o := .inl none) (h' := h183) (P := True) rfl rfl trivial H
            · have c187 := Decidable.of_not_not c187
              have H := H.1 c187
              refine wp_steps (i' := 54) (ls' := [some (.ref 381), some (.int 0), some (.int x149), some (.int v186)]) (st' := [.int v186]) (h' := h183) (P := True) 1 rfl rfl trivial ?_
              refine wp_br (P := True) (c := ¬ v186 = 0) (t := 56) (st' := []) rfl rfl trivial (fun c188 => ?_) (fun c188 => ?_)
              · skip
                have H := H.2 c188
                refine wp_steps (i' := 60) (ls' := [some (.ref 381), some (.int 0), some (.int x149), some (.int v186)]) (st' := [.int 0, .int (mx_i h183 381 17), .ref 381]) (h' := h183) (P := ((mxT 381).1 = 11 ∧ mxG h183) ∧ True) 4 rfl rfl ⟨⟨(congrArg Prod.fst sT_381), G185⟩, trivial⟩ ?_
                have J : ∀ (v189 : Int32) (ev189 : v189 = ((if (0 : Int32) = 0 then x149 else 0) : Int32)), mx_wp (d + 31) 234 64 [some (.ref 381), some (.int 0), some (.int x149), some (.int v186)] [.int v189, .int (mx_i h183 381 17), .ref 381] h183 Q := by
                  intro v189 ev189
                  have H := H v189 ev189
                  refine wp_steps (i' := 66) (ls' := [some (.ref 381), some (.int 0), some (.int x149), some (.int v186)]) (st' := []) (h' := mx_wi h183 381 17 ((mx_i h183 381 17) + v189)) (P := ((mxT 381).1 = 11 ∧ mxG h183) ∧ True) 2 rfl rfl ⟨⟨(congrArg Prod.fst sT_381), G185⟩, trivial⟩ ?_
                  obtain ⟨h190, e191⟩ : ∃ z9, z9 = mx_wi h183 381 17 ((mx_i h183 381 17) + v189) := ⟨_, rfl⟩
                  rw [← e191]
                  have H := H h190 e191
                  have G192 : mxG h190 := e191 ▸ mxG_wi G185
                  refine wp_steps (i' := 71) (ls' := [some (.ref 381), some (.int 0), some (.int x149), some (.int v186)]) (st' := [.int 1, .int 0, .int (mx_i h190 381 18), .ref 381]) (h' := h190) (P := ((mxT 381).1 = 11 ∧ mxG h190) ∧ True) 5 rfl rfl ⟨⟨(congrArg Prod.fst sT_381), G192⟩, trivial⟩ ?_
                  have J : ∀ (v193 : Int32) (ev193 : v193 = ((if (0 : Int32) = 1 then x149 else 0) : Int32)), mx_wp (d + 31) 234 75 [some (.ref 381), some (.int 0), some (.int x149), some (.int v186)] [.int v193, .int (mx_i h190 381 18), .ref 381] h190 Q := by
                    intro v193 ev193
                    have H := H v193 ev193
                    refine wp_steps (i' := 77) (ls' := [some (.ref 381), some (.int 0), some (.int x149), some (.int v186)]) (st' := []) (h' := mx_wi h190 381 18 ((mx_i h190 381 18) + v193)) (P := ((mxT 381).1 = 11 ∧ mxG h190) ∧ True) 2 rfl rfl ⟨⟨(congrArg Prod.fst sT_381), G192⟩, trivial⟩ ?_
                    obtain ⟨h194, e195⟩ : ∃ z9, z9 = mx_wi h190 381 18 ((mx_i h190 381 18) + v193) := ⟨_, rfl⟩
                    rw [← e195]
                    have H := H h194 e195
                    have G196 : mxG h194 := e195 ▸ mxG_wi G192
                    refine wp_steps (i' := 82) (ls' := [some (.ref 381), some (.int 0), some (.int x149), some (.int v186)]) (st' := [.int 2, .int 0, .int (mx_i h194 381 19), .ref 381]) (h' := h194) (P := ((mxT 381).1 = 11 ∧ mxG h194) ∧ True) 5 rfl rfl ⟨⟨(congrArg Prod.fst sT_381), G196⟩, trivial⟩ ?_
                    have J : ∀ (v197 : Int32) (ev197 : v197 = ((if (0 : Int32) = 2 then x149 else 0) : Int32)), mx_wp (d + 31) 234 86 [some (.ref 381), some (.int 0), some (.int x149), some (.int v186)] [.int v197, .int (mx_i h194 381 19), .ref 381] h194 Q := by
                      intro v197 ev197
                      have H := H v197 ev197
                      refine wp_steps (i' := 88) (ls' := [some (.ref 381), some (.int 0), some (.int x149), some (.int v186)]) (st' := []) (h' := mx_wi h194 381 19 ((mx_i h194 381 19) + v197)) (P := ((mxT 381).1 = 11 ∧ mxG h194) ∧ True) 2 rfl rfl ⟨⟨(congrArg Prod.fst sT_381), G196⟩, trivial⟩ ?_
                      obtain ⟨h198, e199⟩ : ∃ z9, z9 = mx_wi h194 381 19 ((mx_i h194 381 19) + v197) := ⟨_, rfl⟩
                      rw [← e199]
                      have H := H h198 e199
                      have G200 : mxG h198 := e199 ▸ mxG_wi G196
                      exact wp_end (o := .inl none) (h' := h198) (P := True) rfl rfl trivial H
                    refine wp_br (P := True) (c := ¬ (0 : Int32) = 2) (t := 85) (st' := [.int (mx_i h194 381 19), .ref 381]) rfl rfl trivial (fun c201 => ?_) (fun c201 => ?_)
                    · skip
                      refine wp_steps (i' := 86) (ls' := [some (.ref 381), some (.int 0), some (.int x149), some (.int v186)]) (st' := [.int 0, .int (mx_i h194 381 19), .ref 381]) (h' := h194) (P := True) 1 rfl rfl trivial ?_
                      exact J _ (by rw [if_neg c201])
                    · have c201 := Decidable.of_not_not c201
                      refine wp_steps (i' := 84) (ls' := [some (.ref 381), some (.int 0), some (.int x149), some (.int v186)]) (st' := [.int x149, .int (mx_i h194 381 19), .ref 381]) (h' := h194) (P := True) 1 rfl rfl trivial ?_
                      refine wp_J (j := 86) (st' := [.int x149, .int (mx_i h194 381 19), .ref 381]) rfl rfl ?_
                      exact J _ (by rw [if_pos c201])
                  refine wp_br (P := True) (c := ¬ (0 : Int32) = 1) (t := 74) (st' := [.int (mx_i h190 381 18), .ref 381]) rfl rfl trivial (fun c202 => ?_) (fun c202 => ?_)
                  · skip
                    refine wp_steps (i' := 75) (ls' := [some (.ref 381), some (.int 0), some (.int x149), some (.int v186)]) (st' := [.int 0, .int (mx_i h190 381 18), .ref 381]) (h' := h190) (P := True) 1 rfl rfl trivial ?_
                    exact J _ (by rw [if_neg c202])
                  · have c202 := Decidable.of_not_not c202
                    refine wp_steps (i' := 73) (ls' := [some (.ref 381), some (.int 0), some (.int x149), some (.int v186)]) (st' := [.int x149, .int (mx_i h190 381 18), .ref 381]) (h' := h190) (P := True) 1 rfl rfl trivial ?_
                    refine wp_J (j := 75) (st' := [.int x149, .int (mx_i h190 381 18), .ref 381]) rfl rfl ?_
                    exact J _ (by rw [if_pos c202])
                refine wp_br (P := True) (c := ¬ (0 : Int32) = 0) (t := 63) (st' := [.int (mx_i h183 381 17), .ref 381]) rfl rfl trivial (fun c203 => ?_) (fun c203 => ?_)
                · skip
                  refine wp_steps (i' := 64) (ls' := [some (.ref 381), some (.int 0), some (.int x149), some (.int v186)]) (st' := [.int 0, .int (mx_i h183 381 17), .ref 381]) (h' := h183) (P := True) 1 rfl rfl trivial ?_
                  exact J _ (by rw [if_neg c203])
                · have c203 := Decidable.of_not_not c203
                  refine wp_steps (i' := 62) (ls' := [some (.ref 381), some (.int 0), some (.int x149), some (.int v186)]) (st' := [.int x149, .int (mx_i h183 381 17), .ref 381]) (h' := h183) (P := True) 1 rfl rfl trivial ?_
                  refine wp_J (j := 64) (st' := [.int x149, .int (mx_i h183 381 17), .ref 381]) rfl rfl ?_
                  exact J _ (by rw [if_pos c203])
              · have c188 := Decidable.of_not_not c188
                have H := H.1 c188
                exact wp_end (o := .inl none) (h' := h183) (P := True) rfl rfl trivial H
          refine wp_br (P := True) (c := x182 = 0) (t := 47) (st' := []) rfl rfl trivial (fun c204 => ?_) (fun c204 => ?_)
          · skip
            refine wp_steps (i' := 48) (ls' := [some (.ref 381), some (.int 0), some (.int x149), none]) (st' := [.int 0]) (h' := h183) (P := True) 1 rfl rfl trivial ?_
            exact J _ (by rw [if_pos c204])
          · skip
            refine wp_steps (i' := 46) (ls' := [some (.ref 381), some (.int 0), some (.int x149), none]) (st' := [.int 1]) (h' := h183) (P := True) 1 rfl rfl trivial ?_
            refine wp_J (j := 48) (st' := [.int 1]) rfl rfl ?_
            exact J _ (by rw [if_neg c204])
      · skip
        have H := H.2 c153
        exact wp_end (o := .inl none) (h' := h150) (P := True) rfl rfl trivial H
    · have c147 := Decidable.of_not_not c147
      have H := H.1 c147
      refine wp_steps (i' := 26) (ls' := [some (.ref 381), some (.int 0), none, none]) (st' := [.int (mx_i h4 381 11), .ref 381]) (h' := h4) (P := ((mxT 381).1 = 11 ∧ mxG h4) ∧ True) 3 rfl rfl ⟨⟨(congrArg Prod.fst sT_381), G6⟩, trivial⟩ ?_
      refine wp_call (b := false) (y' := 213) (as := [.ref 381, .int (mx_i h4 381 11)]) (rest := []) (P := ((mxT 381).1 = mxRc 213 ∧ mxG h4)) rfl (by with_unfolding_all rfl) ⟨(congrArg Prod.fst sT_381), G6⟩ (Nat.le_of_ble_eq_true rfl) (sp_213 G6 ?_)
      show mx_wp (d + 31) 234 27 [some (.ref 381), some (.int 0), none, none] [] (W_213 h4 (mx_i h4 381 11)) Q
      obtain ⟨h205, e206⟩ : ∃ z9, z9 = W_213 h4 (mx_i h4 381 11) := ⟨_, rfl⟩
      rw [← e206]
      have H := H h205 e206
      have K208 : mxK h4 h205 := e206 ▸ KW_213
      have G207 : mxG h205 := mxK_G K208 G6
      exact wp_end (o := .inl none) (h' := h205) (P := True) rfl rfl trivial H
