/-! 31: StoneBacks$LawText.readLine(LStoneBacks$Tape;LStoneBacks$Law;)Z -/
set_option maxRecDepth 8000 in
theorem tr_31_0 {d : Nat} {h : mxH} {Q : mxO → mxH → Prop} {b : Nat} (G : mxG h) (hVb : (mxT b).1 = 3) (H : (vp_in (mx_i h 101 3) 401 ∧ (((mx_r h 106 (mx_i h 101 3).toNatClampNeg) = 0 ∨ (3 ≤ (mx_r h 106 (mx_i h 101 3).toNatClampNeg) ∧ (mx_r h 106 (mx_i h 101 3).toNatClampNeg) < 29)) ∧ (13 = 0 ∨ (3 ≤ 13 ∧ 13 < 29))) ∧ (((V_96 h 13) = 0 → (vp_in (mx_i (W_96 h 13) 101 3) 401 ∧ (((mx_r (W_96 h 13) 106 (mx_i (W_96 h 13) 101 3).toNatClampNeg) = 0 ∨ (3 ≤ (mx_r (W_96 h 13) 106 (mx_i (W_96 h 13) 101 3).toNatClampNeg) ∧ (mx_r (W_96 h 13) 106 (mx_i (W_96 h 13) 101 3).toNatClampNeg) < 29)) ∧ (14 = 0 ∨ (3 ≤ 14 ∧ 14 < 29))) ∧ (((V_96 (W_96 h 13) 14) = 0 → (vp_in (mx_i (W_96 (W_96 h 13) 14) 101 3) 401 ∧ (((mx_r (W_96 (W_96 h 13) 14) 106 (mx_i (W_96 (W_96 h 13) 14) 101 3).toNatClampNeg) = 0 ∨ (3 ≤ (mx_r (W_96 (W_96 h 13) 14) 106 (mx_i (W_96 (W_96 h 13) 14) 101 3).toNatClampNeg) ∧ (mx_r (W_96 (W_96 h 13) 14) 106 (mx_i (W_96 (W_96 h 13) 14) 101 3).toNatClampNeg) < 29)) ∧ (15 = 0 ∨ (3 ≤ 15 ∧ 15 < 29))) ∧ True)) ∧ (¬ (V_96 (W_96 h 13) 14) = 0 → True)))) ∧ (¬ (V_96 h 13) = 0 → True)) ∧ (∀ h4, h4 = W_32 h → (((V_32 h) = (-1) → Q (.inl (some (.int 0))) h4) ∧ (¬ (V_32 h) = (-1) → (okC h4 ∧ (∀ (x10 : Int32) (h11 : mxH), p100 (0 : Int32) (99 : Int32) h4 x10 h11 → ((x10 = (-1) → Q (.inl (some (.int 0))) h11) ∧ (¬ x10 = (-1) → (cB (mx_i h11 b 1) 11 ∧ (∀ (h17 : mxH), p22 b (V_32 h) x10 h11 h17 → (okC h17 ∧ (3 ≤ 16 ∧ 16 < 29) ∧ (∀ (x22 : Int32) (h23 : mxH), p96 16 h17 x22 h23 → ((x22 = 0 → Q (.inl (some (.int 1))) h23) ∧ (¬ x22 = 0 → ((∃ a, atC h23 b a ∧ 1 ≤ a.2.2.1) ∧ (∀ (x28 : Int32) (h29 : mxH), p33 b h23 x28 h29 → (∀ (v32 : Int32), v32 = ((if x28 = 0 then 0 else 1) : Int32) → Q (.inl (some (.int v32))) h29)))))))))))))))))) : mx_wp (d + 5) 31 0 (mx_fr 31 [.ref 107, .ref 101, .ref b]) [] h Q := by
  show mx_wp (d + 5) 31 0 [some (.ref 107), some (.ref 101), some (.ref b), none, none] [] h Q
  refine wp_steps (i' := 1) (ls' := [some (.ref 107), some (.ref 101), some (.ref b), none, none]) (st' := [.ref 101]) (h' := h) (P := True) 1 rfl rfl trivial ?_
  obtain ⟨o1, o2, o3, H⟩ := H
  refine wp_call (b := false) (y' := 32) (as := [.ref 101]) (rest := []) (P := True) rfl (by with_unfolding_all rfl) trivial (Nat.le_of_ble_eq_true rfl) (sp_32 G o1 o2 o3 ?_)
  show mx_wp (d + 5) 31 2 [some (.ref 107), some (.ref 101), some (.ref b), none, none] [.int (V_32 h)] (W_32 h) Q
  obtain ⟨h4, e5⟩ : ∃ z9, z9 = W_32 h := ⟨_, rfl⟩
  rw [← e5]
  have H := H h4 e5
  have K7 : mxK h h4 := e5 ▸ KW_32
  have G6 : mxG h4 := mxK_G K7 G
  refine wp_steps (i' := 5) (ls' := [some (.ref 107), some (.ref 101), some (.ref b), some (.int (V_32 h)), none]) (st' := [.int (-1), .int (V_32 h)]) (h' := h4) (P := True) 3 rfl rfl trivial ?_
  refine wp_br (P := True) (c := ¬ (V_32 h) = (-1)) (t := 8) (st' := []) rfl rfl trivial (fun c8 => ?_) (fun c8 => ?_)
  · skip
    have H := H.2 c8
    refine wp_steps (i' := 11) (ls' := [some (.ref 107), some (.ref 101), some (.ref b), some (.int (V_32 h)), none]) (st' := [.int 99, .int 0, .ref 101]) (h' := h4) (P := True) 3 rfl rfl trivial ?_
    obtain ⟨o9, H⟩ := H
    refine wp_call (b := false) (y' := 100) (as := [.ref 101, .int 0, .int 99]) (rest := []) (P := ((mxT 101).1 = mxRc 100 ∧ mxG h4)) rfl (by with_unfolding_all rfl) ⟨(congrArg Prod.fst sT_101), G6⟩ (Nat.le_of_ble_eq_true rfl) (spm_100 G6 o9 ?_)
    intro x10 h11 p12
    show mx_wp (d + 5) 31 12 [some (.ref 107), some (.ref 101), some (.ref b), some (.int (V_32 h)), none] [.int x10] h11 Q
    have H := H x10 h11 p12
    have G13 : mxG h11 := mxK_G (mvC_K p12.1) G6
    refine wp_steps (i' := 15) (ls' := [some (.ref 107), some (.ref 101), some (.ref b), some (.int (V_32 h)), some (.int x10)]) (st' := [.int (-1), .int x10]) (h' := h11) (P := True) 3 rfl rfl trivial ?_
    refine wp_br (P := True) (c := ¬ x10 = (-1)) (t := 18) (st' := []) rfl rfl trivial (fun c14 => ?_) (fun c14 => ?_)
    · skip
      have H := H.2 c14
      refine wp_steps (i' := 21) (ls' := [some (.ref 107), some (.ref 101), some (.ref b), some (.int (V_32 h)), some (.int x10)]) (st' := [.int x10, .int (V_32 h), .ref b]) (h' := h11) (P := True) 3 rfl rfl trivial ?_
      obtain ⟨o15, H⟩ := H
      refine wp_call (b := false) (y' := 22) (as := [.ref b, .int (V_32 h), .int x10]) (rest := []) (P := ((mxT b).1 = mxRc 22 ∧ mxG h11)) rfl (by with_unfolding_all rfl) ⟨(congrArg Prod.fst (sL_0 hVb)), G13⟩ (Nat.le_of_ble_eq_true rfl) (spm_22 G13 hVb o15 ?_)
      intro h17 p18
      show mx_wp (d + 5) 31 22 [some (.ref 107), some (.ref 101), some (.ref b), some (.int (V_32 h)), some (.int x10)] [] h17 Q
      have H := H h17 p18
      have G19 : mxG h17 := mxU_G p18.1 G13
      refine wp_steps (i' := 24) (ls' := [some (.ref 107), some (.ref 101), some (.ref b), some (.int (V_32 h)), some (.int x10)]) (st' := [.ref 16, .ref 101]) (h' := h17) (P := True) 2 rfl rfl trivial ?_
      obtain ⟨o20, o21, H⟩ := H
      refine wp_call (b := false) (y' := 96) (as := [.ref 101, .ref 16]) (rest := []) (P := ((mxT 101).1 = mxRc 96 ∧ mxG h17)) rfl (by with_unfolding_all rfl) ⟨(congrArg Prod.fst sT_101), G19⟩ (Nat.le_of_ble_eq_true rfl) (spm_96 G19 o20 o21 ?_)
      intro x22 h23 p24
      show mx_wp (d + 5) 31 25 [some (.ref 107), some (.ref 101), some (.ref b), some (.int (V_32 h)), some (.int x10)] [.int x22] h23 Q
      have H := H x22 h23 p24
      have G25 : mxG h23 := mxK_G (mvC_K p24.1) G19
      refine wp_br (P := True) (c := x22 = 0) (t := 31) (st' := []) rfl rfl trivial (fun c26 => ?_) (fun c26 => ?_)
      · skip
        have H := H.1 c26
        refine wp_steps (i' := 32) (ls' := [some (.ref 107), some (.ref 101), some (.ref b), some (.int (V_32 h)), some (.int x10)]) (st' := [.int 1]) (h' := h23) (P := True) 1 rfl rfl trivial ?_
        refine wp_J (j := 34) (st' := [.int 1]) rfl rfl ?_
        exact wp_end (o := .inl (some (.int 1))) (h' := h23) (P := ((1 : Int32) = 0 ∨ (1 : Int32) = 1)) rfl rfl (Or.inr rfl) H
      · skip
        have H := H.2 c26
        refine wp_steps (i' := 29) (ls' := [some (.ref 107), some (.ref 101), some (.ref b), some (.int (V_32 h)), some (.int x10)]) (st' := [.ref b, .ref 101, .ref 107]) (h' := h23) (P := True) 3 rfl rfl trivial ?_
        obtain ⟨o27, H⟩ := H
        refine wp_call (b := false) (y' := 33) (as := [.ref 107, .ref 101, .ref b]) (rest := []) (P := ((mxT 107).1 = mxRc 33 ∧ mxG h23)) rfl (by with_unfolding_all rfl) ⟨(congrArg Prod.fst sT_107), G25⟩ (Nat.le_of_ble_eq_true rfl) (sp_33 G25 hVb o27 ?_)
        intro x28 h29 p30
        show mx_wp (d + 5) 31 30 [some (.ref 107), some (.ref 101), some (.ref b), some (.int (V_32 h)), some (.int x10)] [.int x28] h29 Q
        have H := H x28 h29 p30
        have G31 : mxG h29 := mxU_G p30.1.1 G25
        have J : ∀ (v32 : Int32) (ev32 : v32 = ((if x28 = 0 then 0 else 1) : Int32)), mx_wp (d + 5) 31 34 [some (.ref 107), some (.ref 101), some (.ref b), some (.int (V_32 h)), some (.int x10)] [.int v32] h29 Q := by
          intro v32 ev32
          have H := H v32 ev32
          exact wp_end (o := .inl (some (.int v32))) (h' := h29) (P := (v32 = 0 ∨ v32 = 1)) rfl rfl (b01 ev32 (by repeat' (first | exact Or.inl rfl | exact Or.inr rfl | split))) H
        refine wp_br (P := True) (c := x28 = 0) (t := 33) (st' := []) rfl rfl trivial (fun c33 => ?_) (fun c33 => ?_)
        · skip
          refine wp_steps (i' := 34) (ls' := [some (.ref 107), some (.ref 101), some (.ref b), some (.int (V_32 h)), some (.int x10)]) (st' := [.int 0]) (h' := h29) (P := True) 1 rfl rfl trivial ?_
          exact J _ (by rw [if_pos c33])
        · skip
          refine wp_steps (i' := 32) (ls' := [some (.ref 107), some (.ref 101), some (.ref b), some (.int (V_32 h)), some (.int x10)]) (st' := [.int 1]) (h' := h29) (P := True) 1 rfl rfl trivial ?_
          refine wp_J (j := 34) (st' := [.int 1]) rfl rfl ?_
          exact J _ (by rw [if_neg c33])
    · have c14 := Decidable.of_not_not c14
      have H := H.1 c14
      refine wp_steps (i' := 17) (ls' := [some (.ref 107), some (.ref 101), some (.ref b), some (.int (V_32 h)), some (.int x10)]) (st' := [.int 0]) (h' := h11) (P := True) 1 rfl rfl trivial ?_
      exact wp_end (o := .inl (some (.int 0))) (h' := h11) (P := ((0 : Int32) = 0 ∨ (0 : Int32) = 1)) rfl rfl (Or.inl rfl) H
  · have c8 := Decidable.of_not_not c8
    have H := H.1 c8
    refine wp_steps (i' := 7) (ls' := [some (.ref 107), some (.ref 101), some (.ref b), some (.int (V_32 h)), none]) (st' := [.int 0]) (h' := h4) (P := True) 1 rfl rfl trivial ?_
    exact wp_end (o := .inl (some (.int 0))) (h' := h4) (P := ((0 : Int32) = 0 ∨ (0 : Int32) = 1)) rfl rfl (Or.inl rfl) H
