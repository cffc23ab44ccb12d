/-! THE CONSTRUCTOR OF STONEBACKS, AND THE START OF THE LAW -/
def cop_131 : List (Nat × Nat × Nat × Nat × Int32) := ([(0, 8, 0, 0, 0)] ++ cop_84 101 2 ++ [(2, 100, 0, 101, 0)]) ++ (([(0, 4, 0, 0, 0)] ++ cop_29 107 8 ++ [(2, 100, 1, 107, 0)]) ++ (([(0, 11, 0, 0, 0)] ++ cop_6 109 10 ++ [(2, 100, 2, 109, 0)]) ++ (([(0, 3, 0, 0, 0)] ++ cop_53 117 18 ++ [(2, 100, 3, 117, 0)]) ++ (([(0, 9, 0, 0, 0)] ++ cop_102 119 20 ++ [(2, 100, 4, 119, 0)]) ++ (([(0, 9, 0, 0, 0)] ++ cop_102 135 36 ++ [(2, 100, 5, 135, 0)]) ++ (([(0, 9, 0, 0, 0)] ++ cop_19 151 52 ++ [(2, 100, 6, 151, 0)]) ++ (([(0, 9, 0, 0, 0)] ++ cop_19 158 59 ++ [(2, 100, 7, 158, 0)]) ++ (([(0, 9, 0, 0, 0)] ++ cop_102 165 66 ++ [(2, 100, 8, 165, 0)]) ++ (([(0, 9, 0, 0, 0)] ++ cop_19 181 82 ++ [(2, 100, 9, 181, 0)]) ++ (([(1, 100, 10, 0, 0), (0, 12, 0, 0, 0), (2, 100, 11, 188, 0), (1, 100, 12, 0, 0), (1, 100, 13, 0, 0), (1, 100, 14, 0, (-1 : Int32))]) ++ (([(0, 9, 0, 0, 0)] ++ cop_102 189 90 ++ [(2, 188, 0, 189, 0)]) ++ (([(0, 9, 0, 0, 0)] ++ cop_102 205 106 ++ [(2, 188, 1, 205, 0)]) ++ (([(0, 9, 0, 0, 0)] ++ cop_102 221 122 ++ [(2, 188, 2, 221, 0)]) ++ (([(0, 9, 0, 0, 0)] ++ cop_102 237 138 ++ [(2, 188, 3, 237, 0)]) ++ (([(0, 9, 0, 0, 0)] ++ cop_102 253 154 ++ [(2, 188, 4, 253, 0)]) ++ (([(0, 9, 0, 0, 0)] ++ cop_102 269 170 ++ [(2, 188, 5, 269, 0)]) ++ (([(0, 9, 0, 0, 0)] ++ cop_102 285 186 ++ [(2, 188, 6, 285, 0)]) ++ (([(0, 9, 0, 0, 0)] ++ cop_102 301 202 ++ [(2, 188, 7, 301, 0)]) ++ (([(0, 9, 0, 0, 0)] ++ cop_102 317 218 ++ [(2, 188, 8, 317, 0)]) ++ (([(0, 9, 0, 0, 0)] ++ cop_102 333 234 ++ [(2, 188, 9, 333, 0)]) ++ (([(0, 9, 0, 0, 0)] ++ cop_102 349 250 ++ [(2, 188, 10, 349, 0)]) ++ (([(0, 9, 0, 0, 0)] ++ cop_102 365 266 ++ [(2, 188, 11, 365, 0)])))))))))))))))))))))))
set_option maxRecDepth 8000 in
theorem ct_131 {d : Nat} {h : mxH} {Q : mxO → mxH → Prop} (hc : mx_c h = 1) (k : ∀ h1, h1 = crun cop_131 h → mx_c h1 = 281 → Q (.inl none) h1) : mx_wp (d + 2) 131 0 (mx_fr 131 [.ref 100]) [] h Q := by
  show mx_wp (d + 2) 131 0 [some (.ref 100), none] [] h Q
  refine wp_steps (i' := 2) (ls' := [some (.ref 100), none]) (st' := []) (h' := h) (P := (100 ≤ 100 ∧ ((([] : List Value).map mx_cat).sum ≤ 8)) ∧ True) 2 rfl rfl ⟨⟨by decide, Nat.le_of_ble_eq_true rfl⟩, trivial⟩ ?_
  have hc0 : mx_c h = 1 := hc
  refine wp_steps (i' := 5) (ls' := [some (.ref 100), none]) (st' := [.ref (100 + mx_c h), .ref (100 + mx_c h), .ref 100]) (h' := mx_mk h 8) (P := ((mxT (100 + mx_c h)).1 = 8 ∧ mx_c h < 292) ∧ True) 3 rfl rfl ⟨⟨by rw [hc0]; rfl, by omega⟩, trivial⟩ ?_
  obtain ⟨m0, em0⟩ : ∃ z, z = mx_mk h 8 := ⟨_, rfl⟩
  rw [← em0, hc0]
  have cm0 : mx_c m0 = 2 := by rw [em0]; show mx_c h + 1 = _; rw [hc0]
  show mx_wp (d + 2) 131 5 [some (.ref 100), none] [.ref 101, .ref 101, .ref 100] m0 Q
  refine wp_call (b := true) (y' := 84) (as := [.ref 101]) (rest := [.ref 101, .ref 100]) (P := 100 ≤ 101) rfl (by with_unfolding_all rfl) (by decide) (Nat.le_of_ble_eq_true rfl) (ct_84 (by decide +kernel) (by decide) (by omega) (by rw [cm0]; unfold shp; decide +kernel) (by omega) (fun p0 ep0 cp0 => ?_))
  show mx_wp (d + 2) 131 6 [some (.ref 100), none] [.ref 101, .ref 100] p0 Q
  rw [cm0] at ep0 cp0
  refine wp_steps (i' := 7) (ls' := [some (.ref 100), none]) (st' := []) (h' := mx_wr p0 100 0 101) (P := ((mxT 100).1 = 10 ∧ 100 < 100 + mx_c p0) ∧ True) 1 rfl rfl ⟨⟨rfl, by omega⟩, trivial⟩ ?_
  obtain ⟨g1, eg1⟩ : ∃ z, z = mx_wr p0 100 0 101 := ⟨_, rfl⟩
  rw [← eg1]
  have hc1 : mx_c g1 = 7 := by rw [eg1]; show mx_c p0 = _; rw [cp0]
  have E1 : g1 = crun ([(0, 8, 0, 0, 0)] ++ cop_84 101 2 ++ [(2, 100, 0, 101, 0)]) h := by rw [crun_app, crun_app, eg1, ep0, em0]; rfl
  refine wp_steps (i' := 10) (ls' := [some (.ref 100), none]) (st' := [.ref (100 + mx_c g1), .ref (100 + mx_c g1), .ref 100]) (h' := mx_mk g1 4) (P := ((mxT (100 + mx_c g1)).1 = 4 ∧ mx_c g1 < 292) ∧ True) 3 rfl rfl ⟨⟨by rw [hc1]; rfl, by omega⟩, trivial⟩ ?_
  obtain ⟨m1, em1⟩ : ∃ z, z = mx_mk g1 4 := ⟨_, rfl⟩
  rw [← em1, hc1]
  have cm1 : mx_c m1 = 8 := by rw [em1]; show mx_c g1 + 1 = _; rw [hc1]
  show mx_wp (d + 2) 131 10 [some (.ref 100), none] [.ref 107, .ref 107, .ref 100] m1 Q
  refine wp_call (b := true) (y' := 29) (as := [.ref 107]) (rest := [.ref 107, .ref 100]) (P := 100 ≤ 107) rfl (by with_unfolding_all rfl) (by decide) (Nat.le_of_ble_eq_true rfl) (ct_29 (by decide +kernel) (by decide) (by omega) (by rw [cm1]; unfold shp; decide +kernel) (by omega) (fun p1 ep1 cp1 => ?_))
  show mx_wp (d + 2) 131 11 [some (.ref 100), none] [.ref 107, .ref 100] p1 Q
  rw [cm1] at ep1 cp1
  refine wp_steps (i' := 12) (ls' := [some (.ref 100), none]) (st' := []) (h' := mx_wr p1 100 1 107) (P := ((mxT 100).1 = 10 ∧ 100 < 100 + mx_c p1) ∧ True) 1 rfl rfl ⟨⟨rfl, by omega⟩, trivial⟩ ?_
  obtain ⟨g2, eg2⟩ : ∃ z, z = mx_wr p1 100 1 107 := ⟨_, rfl⟩
  rw [← eg2]
  have hc2 : mx_c g2 = 9 := by rw [eg2]; show mx_c p1 = _; rw [cp1]
  have E2 : g2 = crun ([(0, 4, 0, 0, 0)] ++ cop_29 107 8 ++ [(2, 100, 1, 107, 0)]) g1 := by rw [crun_app, crun_app, eg2, ep1, em1]; rfl
  refine wp_steps (i' := 15) (ls' := [some (.ref 100), none]) (st' := [.ref (100 + mx_c g2), .ref (100 + mx_c g2), .ref 100]) (h' := mx_mk g2 11) (P := ((mxT (100 + mx_c g2)).1 = 2 ∧ mx_c g2 < 292) ∧ True) 3 rfl rfl ⟨⟨by rw [hc2]; rfl, by omega⟩, trivial⟩ ?_
  obtain ⟨m2, em2⟩ : ∃ z, z = mx_mk g2 11 := ⟨_, rfl⟩
  rw [← em2, hc2]
  have cm2 : mx_c m2 = 10 := by rw [em2]; show mx_c g2 + 1 = _; rw [hc2]
  show mx_wp (d + 2) 131 15 [some (.ref 100), none] [.ref 109, .ref 109, .ref 100] m2 Q
  refine wp_call (b := true) (y' := 6) (as := [.ref 109]) (rest := [.ref 109, .ref 100]) (P := 100 ≤ 109) rfl (by with_unfolding_all rfl) (by decide) (Nat.le_of_ble_eq_true rfl) (ct_6 (by decide +kernel) (by decide) (by omega) (by rw [cm2]; unfold shp; decide +kernel) (by omega) (fun p2 ep2 cp2 => ?_))
  show mx_wp (d + 2) 131 16 [some (.ref 100), none] [.ref 109, .ref 100] p2 Q
  rw [cm2] at ep2 cp2
  refine wp_steps (i' := 17) (ls' := [some (.ref 100), none]) (st' := []) (h' := mx_wr p2 100 2 109) (P := ((mxT 100).1 = 10 ∧ 100 < 100 + mx_c p2) ∧ True) 1 rfl rfl ⟨⟨rfl, by omega⟩, trivial⟩ ?_
  obtain ⟨g3, eg3⟩ : ∃ z, z = mx_wr p2 100 2 109 := ⟨_, rfl⟩
  rw [← eg3]
  have hc3 : mx_c g3 = 17 := by rw [eg3]; show mx_c p2 = _; rw [cp2]
  have E3 : g3 = crun ([(0, 11, 0, 0, 0)] ++ cop_6 109 10 ++ [(2, 100, 2, 109, 0)]) g2 := by rw [crun_app, crun_app, eg3, ep2, em2]; rfl
  refine wp_steps (i' := 20) (ls' := [some (.ref 100), none]) (st' := [.ref (100 + mx_c g3), .ref (100 + mx_c g3), .ref 100]) (h' := mx_mk g3 3) (P := ((mxT (100 + mx_c g3)).1 = 6 ∧ mx_c g3 < 292) ∧ True) 3 rfl rfl ⟨⟨by rw [hc3]; rfl, by omega⟩, trivial⟩ ?_
  obtain ⟨m3, em3⟩ : ∃ z, z = mx_mk g3 3 := ⟨_, rfl⟩
  rw [← em3, hc3]
  have cm3 : mx_c m3 = 18 := by rw [em3]; show mx_c g3 + 1 = _; rw [hc3]
  show mx_wp (d + 2) 131 20 [some (.ref 100), none] [.ref 117, .ref 117, .ref 100] m3 Q
  refine wp_call (b := true) (y' := 53) (as := [.ref 117]) (rest := [.ref 117, .ref 100]) (P := 100 ≤ 117) rfl (by with_unfolding_all rfl) (by decide) (Nat.le_of_ble_eq_true rfl) (ct_53 (by decide +kernel) (by decide) (by omega) (by rw [cm3]; unfold shp; decide +kernel) (by omega) (fun p3 ep3 cp3 => ?_))
  show mx_wp (d + 2) 131 21 [some (.ref 100), none] [.ref 117, .ref 100] p3 Q
  rw [cm3] at ep3 cp3
  refine wp_steps (i' := 22) (ls' := [some (.ref 100), none]) (st' := []) (h' := mx_wr p3 100 3 117) (P := ((mxT 100).1 = 10 ∧ 100 < 100 + mx_c p3) ∧ True) 1 rfl rfl ⟨⟨rfl, by omega⟩, trivial⟩ ?_
  obtain ⟨g4, eg4⟩ : ∃ z, z = mx_wr p3 100 3 117 := ⟨_, rfl⟩
  rw [← eg4]
  have hc4 : mx_c g4 = 19 := by rw [eg4]; show mx_c p3 = _; rw [cp3]
  have E4 : g4 = crun ([(0, 3, 0, 0, 0)] ++ cop_53 117 18 ++ [(2, 100, 3, 117, 0)]) g3 := by rw [crun_app, crun_app, eg4, ep3, em3]; rfl
  refine wp_steps (i' := 25) (ls' := [some (.ref 100), none]) (st' := [.ref (100 + mx_c g4), .ref (100 + mx_c g4), .ref 100]) (h' := mx_mk g4 9) (P := ((mxT (100 + mx_c g4)).1 = 9 ∧ mx_c g4 < 292) ∧ True) 3 rfl rfl ⟨⟨by rw [hc4]; rfl, by omega⟩, trivial⟩ ?_
  obtain ⟨m4, em4⟩ : ∃ z, z = mx_mk g4 9 := ⟨_, rfl⟩
  rw [← em4, hc4]
  have cm4 : mx_c m4 = 20 := by rw [em4]; show mx_c g4 + 1 = _; rw [hc4]
  show mx_wp (d + 2) 131 25 [some (.ref 100), none] [.ref 119, .ref 119, .ref 100] m4 Q
  refine wp_call (b := true) (y' := 102) (as := [.ref 119]) (rest := [.ref 119, .ref 100]) (P := 100 ≤ 119) rfl (by with_unfolding_all rfl) (by decide) (Nat.le_of_ble_eq_true rfl) (ct_102 (d := d) (by decide +kernel) (by decide) (by omega) (by rw [cm4]; unfold shp; decide +kernel) (by omega) (fun p4 ep4 cp4 => ?_))
  show mx_wp (d + 2) 131 26 [some (.ref 100), none] [.ref 119, .ref 100] p4 Q
  rw [cm4] at ep4 cp4
  refine wp_steps (i' := 27) (ls' := [some (.ref 100), none]) (st' := []) (h' := mx_wr p4 100 4 119) (P := ((mxT 100).1 = 10 ∧ 100 < 100 + mx_c p4) ∧ True) 1 rfl rfl ⟨⟨rfl, by omega⟩, trivial⟩ ?_
  obtain ⟨g5, eg5⟩ : ∃ z, z = mx_wr p4 100 4 119 := ⟨_, rfl⟩
  rw [← eg5]
  have hc5 : mx_c g5 = 35 := by rw [eg5]; show mx_c p4 = _; rw [cp4]
  have E5 : g5 = crun ([(0, 9, 0, 0, 0)] ++ cop_102 119 20 ++ [(2, 100, 4, 119, 0)]) g4 := by rw [crun_app, crun_app, eg5, ep4, em4]; rfl
  refine wp_steps (i' := 30) (ls' := [some (.ref 100), none]) (st' := [.ref (100 + mx_c g5), .ref (100 + mx_c g5), .ref 100]) (h' := mx_mk g5 9) (P := ((mxT (100 + mx_c g5)).1 = 9 ∧ mx_c g5 < 292) ∧ True) 3 rfl rfl ⟨⟨by rw [hc5]; rfl, by omega⟩, trivial⟩ ?_
  obtain ⟨m5, em5⟩ : ∃ z, z = mx_mk g5 9 := ⟨_, rfl⟩
  rw [← em5, hc5]
  have cm5 : mx_c m5 = 36 := by rw [em5]; show mx_c g5 + 1 = _; rw [hc5]
  show mx_wp (d + 2) 131 30 [some (.ref 100), none] [.ref 135, .ref 135, .ref 100] m5 Q
  refine wp_call (b := true) (y' := 102) (as := [.ref 135]) (rest := [.ref 135, .ref 100]) (P := 100 ≤ 135) rfl (by with_unfolding_all rfl) (by decide) (Nat.le_of_ble_eq_true rfl) (ct_102 (d := d) (by decide +kernel) (by decide) (by omega) (by rw [cm5]; unfold shp; decide +kernel) (by omega) (fun p5 ep5 cp5 => ?_))
  show mx_wp (d + 2) 131 31 [some (.ref 100), none] [.ref 135, .ref 100] p5 Q
  rw [cm5] at ep5 cp5
  refine wp_steps (i' := 32) (ls' := [some (.ref 100), none]) (st' := []) (h' := mx_wr p5 100 5 135) (P := ((mxT 100).1 = 10 ∧ 100 < 100 + mx_c p5) ∧ True) 1 rfl rfl ⟨⟨rfl, by omega⟩, trivial⟩ ?_
  obtain ⟨g6, eg6⟩ : ∃ z, z = mx_wr p5 100 5 135 := ⟨_, rfl⟩
  rw [← eg6]
  have hc6 : mx_c g6 = 51 := by rw [eg6]; show mx_c p5 = _; rw [cp5]
  have E6 : g6 = crun ([(0, 9, 0, 0, 0)] ++ cop_102 135 36 ++ [(2, 100, 5, 135, 0)]) g5 := by rw [crun_app, crun_app, eg6, ep5, em5]; rfl
  refine wp_steps (i' := 35) (ls' := [some (.ref 100), none]) (st' := [.ref (100 + mx_c g6), .ref (100 + mx_c g6), .ref 100]) (h' := mx_mk g6 9) (P := ((mxT (100 + mx_c g6)).1 = 3 ∧ mx_c g6 < 292) ∧ True) 3 rfl rfl ⟨⟨by rw [hc6]; rfl, by omega⟩, trivial⟩ ?_
  obtain ⟨m6, em6⟩ : ∃ z, z = mx_mk g6 9 := ⟨_, rfl⟩
  rw [← em6, hc6]
  have cm6 : mx_c m6 = 52 := by rw [em6]; show mx_c g6 + 1 = _; rw [hc6]
  show mx_wp (d + 2) 131 35 [some (.ref 100), none] [.ref 151, .ref 151, .ref 100] m6 Q
  refine wp_call (b := true) (y' := 19) (as := [.ref 151]) (rest := [.ref 151, .ref 100]) (P := 100 ≤ 151) rfl (by with_unfolding_all rfl) (by decide) (Nat.le_of_ble_eq_true rfl) (ct_19 (by decide +kernel) (by decide) (by omega) (by rw [cm6]; unfold shp; decide +kernel) (by omega) (fun p6 ep6 cp6 => ?_))
  show mx_wp (d + 2) 131 36 [some (.ref 100), none] [.ref 151, .ref 100] p6 Q
  rw [cm6] at ep6 cp6
  refine wp_steps (i' := 37) (ls' := [some (.ref 100), none]) (st' := []) (h' := mx_wr p6 100 6 151) (P := ((mxT 100).1 = 10 ∧ 100 < 100 + mx_c p6) ∧ True) 1 rfl rfl ⟨⟨rfl, by omega⟩, trivial⟩ ?_
  obtain ⟨g7, eg7⟩ : ∃ z, z = mx_wr p6 100 6 151 := ⟨_, rfl⟩
  rw [← eg7]
  have hc7 : mx_c g7 = 58 := by rw [eg7]; show mx_c p6 = _; rw [cp6]
  have E7 : g7 = crun ([(0, 9, 0, 0, 0)] ++ cop_19 151 52 ++ [(2, 100, 6, 151, 0)]) g6 := by rw [crun_app, crun_app, eg7, ep6, em6]; rfl
  refine wp_steps (i' := 40) (ls' := [some (.ref 100), none]) (st' := [.ref (100 + mx_c g7), .ref (100 + mx_c g7), .ref 100]) (h' := mx_mk g7 9) (P := ((mxT (100 + mx_c g7)).1 = 3 ∧ mx_c g7 < 292) ∧ True) 3 rfl rfl ⟨⟨by rw [hc7]; rfl, by omega⟩, trivial⟩ ?_
  obtain ⟨m7, em7⟩ : ∃ z, z = mx_mk g7 9 := ⟨_, rfl⟩
  rw [← em7, hc7]
  have cm7 : mx_c m7 = 59 := by rw [em7]; show mx_c g7 + 1 = _; rw [hc7]
  show mx_wp (d + 2) 131 40 [some (.ref 100), none] [.ref 158, .ref 158, .ref 100] m7 Q
  refine wp_call (b := true) (y' := 19) (as := [.ref 158]) (rest := [.ref 158, .ref 100]) (P := 100 ≤ 158) rfl (by with_unfolding_all rfl) (by decide) (Nat.le_of_ble_eq_true rfl) (ct_19 (by decide +kernel) (by decide) (by omega) (by rw [cm7]; unfold shp; decide +kernel) (by omega) (fun p7 ep7 cp7 => ?_))
  show mx_wp (d + 2) 131 41 [some (.ref 100), none] [.ref 158, .ref 100] p7 Q
  rw [cm7] at ep7 cp7
  refine wp_steps (i' := 42) (ls' := [some (.ref 100), none]) (st' := []) (h' := mx_wr p7 100 7 158) (P := ((mxT 100).1 = 10 ∧ 100 < 100 + mx_c p7) ∧ True) 1 rfl rfl ⟨⟨rfl, by omega⟩, trivial⟩ ?_
  obtain ⟨g8, eg8⟩ : ∃ z, z = mx_wr p7 100 7 158 := ⟨_, rfl⟩
  rw [← eg8]
  have hc8 : mx_c g8 = 65 := by rw [eg8]; show mx_c p7 = _; rw [cp7]
  have E8 : g8 = crun ([(0, 9, 0, 0, 0)] ++ cop_19 158 59 ++ [(2, 100, 7, 158, 0)]) g7 := by rw [crun_app, crun_app, eg8, ep7, em7]; rfl
  refine wp_steps (i' := 45) (ls' := [some (.ref 100), none]) (st' := [.ref (100 + mx_c g8), .ref (100 + mx_c g8), .ref 100]) (h' := mx_mk g8 9) (P := ((mxT (100 + mx_c g8)).1 = 9 ∧ mx_c g8 < 292) ∧ True) 3 rfl rfl ⟨⟨by rw [hc8]; rfl, by omega⟩, trivial⟩ ?_
  obtain ⟨m8, em8⟩ : ∃ z, z = mx_mk g8 9 := ⟨_, rfl⟩
  rw [← em8, hc8]
  have cm8 : mx_c m8 = 66 := by rw [em8]; show mx_c g8 + 1 = _; rw [hc8]
  show mx_wp (d + 2) 131 45 [some (.ref 100), none] [.ref 165, .ref 165, .ref 100] m8 Q
  refine wp_call (b := true) (y' := 102) (as := [.ref 165]) (rest := [.ref 165, .ref 100]) (P := 100 ≤ 165) rfl (by with_unfolding_all rfl) (by decide) (Nat.le_of_ble_eq_true rfl) (ct_102 (d := d) (by decide +kernel) (by decide) (by omega) (by rw [cm8]; unfold shp; decide +kernel) (by omega) (fun p8 ep8 cp8 => ?_))
  show mx_wp (d + 2) 131 46 [some (.ref 100), none] [.ref 165, .ref 100] p8 Q
  rw [cm8] at ep8 cp8
  refine wp_steps (i' := 47) (ls' := [some (.ref 100), none]) (st' := []) (h' := mx_wr p8 100 8 165) (P := ((mxT 100).1 = 10 ∧ 100 < 100 + mx_c p8) ∧ True) 1 rfl rfl ⟨⟨rfl, by omega⟩, trivial⟩ ?_
  obtain ⟨g9, eg9⟩ : ∃ z, z = mx_wr p8 100 8 165 := ⟨_, rfl⟩
  rw [← eg9]
  have hc9 : mx_c g9 = 81 := by rw [eg9]; show mx_c p8 = _; rw [cp8]
  have E9 : g9 = crun ([(0, 9, 0, 0, 0)] ++ cop_102 165 66 ++ [(2, 100, 8, 165, 0)]) g8 := by rw [crun_app, crun_app, eg9, ep8, em8]; rfl
  refine wp_steps (i' := 50) (ls' := [some (.ref 100), none]) (st' := [.ref (100 + mx_c g9), .ref (100 + mx_c g9), .ref 100]) (h' := mx_mk g9 9) (P := ((mxT (100 + mx_c g9)).1 = 3 ∧ mx_c g9 < 292) ∧ True) 3 rfl rfl ⟨⟨by rw [hc9]; rfl, by omega⟩, trivial⟩ ?_
  obtain ⟨m9, em9⟩ : ∃ z, z = mx_mk g9 9 := ⟨_, rfl⟩
  rw [← em9, hc9]
  have cm9 : mx_c m9 = 82 := by rw [em9]; show mx_c g9 + 1 = _; rw [hc9]
  show mx_wp (d + 2) 131 50 [some (.ref 100), none] [.ref 181, .ref 181, .ref 100] m9 Q
  refine wp_call (b := true) (y' := 19) (as := [.ref 181]) (rest := [.ref 181, .ref 100]) (P := 100 ≤ 181) rfl (by with_unfolding_all rfl) (by decide) (Nat.le_of_ble_eq_true rfl) (ct_19 (by decide +kernel) (by decide) (by omega) (by rw [cm9]; unfold shp; decide +kernel) (by omega) (fun p9 ep9 cp9 => ?_))
  show mx_wp (d + 2) 131 51 [some (.ref 100), none] [.ref 181, .ref 100] p9 Q
  rw [cm9] at ep9 cp9
  refine wp_steps (i' := 52) (ls' := [some (.ref 100), none]) (st' := []) (h' := mx_wr p9 100 9 181) (P := ((mxT 100).1 = 10 ∧ 100 < 100 + mx_c p9) ∧ True) 1 rfl rfl ⟨⟨rfl, by omega⟩, trivial⟩ ?_
  obtain ⟨g10, eg10⟩ : ∃ z, z = mx_wr p9 100 9 181 := ⟨_, rfl⟩
  rw [← eg10]
  have hc10 : mx_c g10 = 88 := by rw [eg10]; show mx_c p9 = _; rw [cp9]
  have E10 : g10 = crun ([(0, 9, 0, 0, 0)] ++ cop_19 181 82 ++ [(2, 100, 9, 181, 0)]) g9 := by rw [crun_app, crun_app, eg10, ep9, em9]; rfl
  refine wp_steps (i' := 70) (ls' := [some (.ref 100), some (.int 0)]) (st' := []) (h' := (mx_wi (mx_wi (mx_wi (mx_wr (mx_mk (mx_wi g10 100 10 0) 12) 100 11 (100 + mx_c g10)) 100 12 0) 100 13 0) 100 14 (-1))) (P := (((mxT 100).1 = 10 ∧ 100 < 100 + mx_c g10) ∧ ((0 : Int32) = 0 ∨ (0 : Int32) = 1)) ∧ (mxT (100 + mx_c g10) = (54, 12) ∧ ¬ (12 : Int32) < 0 ∧ mx_c g10 < 292) ∧ ((mxT 100).1 = 10 ∧ 100 < 100 + (mx_c g10 + 1)) ∧ ((mxT 100).1 = 10 ∧ 100 < 100 + (mx_c g10 + 1)) ∧ ((mxT 100).1 = 10 ∧ 100 < 100 + (mx_c g10 + 1)) ∧ ((mxT 100).1 = 10 ∧ 100 < 100 + (mx_c g10 + 1)) ∧ True) 18 rfl rfl ⟨⟨⟨rfl, by omega⟩, .inl rfl⟩, ⟨by rw [hc10]; rfl, by decide, by omega⟩, ⟨rfl, by omega⟩, ⟨rfl, by omega⟩, ⟨rfl, by omega⟩, ⟨rfl, by omega⟩, trivial⟩ ?_
  rw [hc10]
  obtain ⟨g11, eg11⟩ : ∃ z, z = (mx_wi (mx_wi (mx_wi (mx_wr (mx_mk (mx_wi g10 100 10 0) 12) 100 11 188) 100 12 0) 100 13 0) 100 14 (-1)) := ⟨_, rfl⟩
  show mx_wp (d + 2) 131 70 [some (.ref 100), some (.int 0)] [] (mx_wi (mx_wi (mx_wi (mx_wr (mx_mk (mx_wi g10 100 10 0) 12) 100 11 188) 100 12 0) 100 13 0) 100 14 (-1)) Q
  rw [← eg11]
  have hc11 : mx_c g11 = 89 := by rw [eg11]; show mx_c g10 + 1 = _; rw [hc10]
  have E11 : g11 = crun ([(1, 100, 10, 0, 0), (0, 12, 0, 0, 0), (2, 100, 11, 188, 0), (1, 100, 12, 0, 0), (1, 100, 13, 0, 0), (1, 100, 14, 0, (-1 : Int32))]) g10 := by rw [eg11]; rfl
  have R11 : mx_r g11 100 11 = 188 := by rw [eg11]; rfl
  refine wp_steps (i' := 72) (ls' := [some (.ref 100), some (.int 0)]) (st' := [.int 12, .int 0]) (h' := g11) (P := True) 2 rfl rfl trivial ?_
  refine wp_br (P := True) rfl rfl trivial (fun c => absurd c (by unfold mx_q2; decide)) (fun _ => ?_)
  refine wp_steps (i' := 75) (ls' := [some (.ref 100), some (.int 0)]) (st' := [.ref (mx_r g11 100 11)]) (h' := g11) (P := ((mxT 100).1 = 10 ∧ 100 < 100 + mx_c g11) ∧ True) 2 rfl rfl ⟨⟨rfl, by omega⟩, trivial⟩ ?_
  rw [R11]
  refine wp_steps (i' := 78) (ls' := [some (.ref 100), some (.int 0)]) (st' := [.ref (100 + mx_c g11), .ref (100 + mx_c g11), .int 0, .ref 188]) (h' := mx_mk g11 9) (P := ((mxT (100 + mx_c g11)).1 = 9 ∧ mx_c g11 < 292) ∧ True) 3 rfl rfl ⟨⟨by rw [hc11]; rfl, by omega⟩, trivial⟩ ?_
  obtain ⟨m11, em11⟩ : ∃ z, z = mx_mk g11 9 := ⟨_, rfl⟩
  rw [← em11, hc11]
  have cm11 : mx_c m11 = 90 := by rw [em11]; show mx_c g11 + 1 = _; rw [hc11]
  show mx_wp (d + 2) 131 78 [some (.ref 100), some (.int 0)] [.ref 189, .ref 189, .int 0, .ref 188] m11 Q
  refine wp_call (b := true) (y' := 102) (as := [.ref 189]) (rest := [.ref 189, .int 0, .ref 188]) (P := 100 ≤ 189) rfl (by with_unfolding_all rfl) (by decide) (Nat.le_of_ble_eq_true rfl) (ct_102 (d := d) (by decide +kernel) (by decide) (by omega) (by rw [cm11]; unfold shp; decide +kernel) (by omega) (fun p11 ep11 cp11 => ?_))
  show mx_wp (d + 2) 131 79 [some (.ref 100), some (.int 0)] [.ref 189, .int 0, .ref 188] p11 Q
  rw [cm11] at ep11 cp11
  refine wp_steps (i' := 81) (ls' := [some (.ref 100), some (.int 1)]) (st' := []) (h' := mx_wr p11 188 0 189) (P := (((mxT 188).1 = 54 ∧ 188 < 100 + mx_c p11) ∧ ((mxT 189).1 = 9 ∧ 189 < 100 + mx_c p11) ∧ vp_in 0 (mxT 188).2) ∧ True) 2 rfl rfl ⟨⟨⟨rfl, by omega⟩, ⟨rfl, by omega⟩, vpl (by decide +kernel)⟩, trivial⟩ ?_
  refine wp_J rfl rfl ?_
  show mx_wp (d + 2) 131 70 [some (.ref 100), some (.int 1)] [] (mx_wr p11 188 0 189) Q
  obtain ⟨g12, eg12⟩ : ∃ z, z = mx_wr p11 188 0 189 := ⟨_, rfl⟩
  rw [← eg12]
  have hc12 : mx_c g12 = 105 := by rw [eg12]; show mx_c p11 = _; rw [cp11]
  have E12 : g12 = crun ([(0, 9, 0, 0, 0)] ++ cop_102 189 90 ++ [(2, 188, 0, 189, 0)]) g11 := by rw [crun_app, crun_app, eg12, ep11, em11]; rfl
  have R12 : mx_r g12 100 11 = 188 := by rw [E12, crun_r, hc11, R11]; decide +kernel
  refine wp_steps (i' := 72) (ls' := [some (.ref 100), some (.int 1)]) (st' := [.int 12, .int 1]) (h' := g12) (P := True) 2 rfl rfl trivial ?_
  refine wp_br (P := True) rfl rfl trivial (fun c => absurd c (by unfold mx_q2; decide)) (fun _ => ?_)
  refine wp_steps (i' := 75) (ls' := [some (.ref 100), some (.int 1)]) (st' := [.ref (mx_r g12 100 11)]) (h' := g12) (P := ((mxT 100).1 = 10 ∧ 100 < 100 + mx_c g12) ∧ True) 2 rfl rfl ⟨⟨rfl, by omega⟩, trivial⟩ ?_
  rw [R12]
  refine wp_steps (i' := 78) (ls' := [some (.ref 100), some (.int 1)]) (st' := [.ref (100 + mx_c g12), .ref (100 + mx_c g12), .int 1, .ref 188]) (h' := mx_mk g12 9) (P := ((mxT (100 + mx_c g12)).1 = 9 ∧ mx_c g12 < 292) ∧ True) 3 rfl rfl ⟨⟨by rw [hc12]; rfl, by omega⟩, trivial⟩ ?_
  obtain ⟨m12, em12⟩ : ∃ z, z = mx_mk g12 9 := ⟨_, rfl⟩
  rw [← em12, hc12]
  have cm12 : mx_c m12 = 106 := by rw [em12]; show mx_c g12 + 1 = _; rw [hc12]
  show mx_wp (d + 2) 131 78 [some (.ref 100), some (.int 1)] [.ref 205, .ref 205, .int 1, .ref 188] m12 Q
  refine wp_call (b := true) (y' := 102) (as := [.ref 205]) (rest := [.ref 205, .int 1, .ref 188]) (P := 100 ≤ 205) rfl (by with_unfolding_all rfl) (by decide) (Nat.le_of_ble_eq_true rfl) (ct_102 (d := d) (by decide +kernel) (by decide) (by omega) (by rw [cm12]; unfold shp; decide +kernel) (by omega) (fun p12 ep12 cp12 => ?_))
  show mx_wp (d + 2) 131 79 [some (.ref 100), some (.int 1)] [.ref 205, .int 1, .ref 188] p12 Q
  rw [cm12] at ep12 cp12
  refine wp_steps (i' := 81) (ls' := [some (.ref 100), some (.int 2)]) (st' := []) (h' := mx_wr p12 188 1 205) (P := (((mxT 188).1 = 54 ∧ 188 < 100 + mx_c p12) ∧ ((mxT 205).1 = 9 ∧ 205 < 100 + mx_c p12) ∧ vp_in 1 (mxT 188).2) ∧ True) 2 rfl rfl ⟨⟨⟨rfl, by omega⟩, ⟨rfl, by omega⟩, vpl (by decide +kernel)⟩, trivial⟩ ?_
  refine wp_J rfl rfl ?_
  show mx_wp (d + 2) 131 70 [some (.ref 100), some (.int 2)] [] (mx_wr p12 188 1 205) Q
  obtain ⟨g13, eg13⟩ : ∃ z, z = mx_wr p12 188 1 205 := ⟨_, rfl⟩
  rw [← eg13]
  have hc13 : mx_c g13 = 121 := by rw [eg13]; show mx_c p12 = _; rw [cp12]
  have E13 : g13 = crun ([(0, 9, 0, 0, 0)] ++ cop_102 205 106 ++ [(2, 188, 1, 205, 0)]) g12 := by rw [crun_app, crun_app, eg13, ep12, em12]; rfl
  have R13 : mx_r g13 100 11 = 188 := by rw [E13, crun_r, hc12, R12]; decide +kernel
  refine wp_steps (i' := 72) (ls' := [some (.ref 100), some (.int 2)]) (st' := [.int 12, .int 2]) (h' := g13) (P := True) 2 rfl rfl trivial ?_
  refine wp_br (P := True) rfl rfl trivial (fun c => absurd c (by unfold mx_q2; decide)) (fun _ => ?_)
  refine wp_steps (i' := 75) (ls' := [some (.ref 100), some (.int 2)]) (st' := [.ref (mx_r g13 100 11)]) (h' := g13) (P := ((mxT 100).1 = 10 ∧ 100 < 100 + mx_c g13) ∧ True) 2 rfl rfl ⟨⟨rfl, by omega⟩, trivial⟩ ?_
  rw [R13]
  refine wp_steps (i' := 78) (ls' := [some (.ref 100), some (.int 2)]) (st' := [.ref (100 + mx_c g13), .ref (100 + mx_c g13), .int 2, .ref 188]) (h' := mx_mk g13 9) (P := ((mxT (100 + mx_c g13)).1 = 9 ∧ mx_c g13 < 292) ∧ True) 3 rfl rfl ⟨⟨by rw [hc13]; rfl, by omega⟩, trivial⟩ ?_
  obtain ⟨m13, em13⟩ : ∃ z, z = mx_mk g13 9 := ⟨_, rfl⟩
  rw [← em13, hc13]
  have cm13 : mx_c m13 = 122 := by rw [em13]; show mx_c g13 + 1 = _; rw [hc13]
  show mx_wp (d + 2) 131 78 [some (.ref 100), some (.int 2)] [.ref 221, .ref 221, .int 2, .ref 188] m13 Q
  refine wp_call (b := true) (y' := 102) (as := [.ref 221]) (rest := [.ref 221, .int 2, .ref 188]) (P := 100 ≤ 221) rfl (by with_unfolding_all rfl) (by decide) (Nat.le_of_ble_eq_true rfl) (ct_102 (d := d) (by decide +kernel) (by decide) (by omega) (by rw [cm13]; unfold shp; decide +kernel) (by omega) (fun p13 ep13 cp13 => ?_))
  show mx_wp (d + 2) 131 79 [some (.ref 100), some (.int 2)] [.ref 221, .int 2, .ref 188] p13 Q
  rw [cm13] at ep13 cp13
  refine wp_steps (i' := 81) (ls' := [some (.ref 100), some (.int 3)]) (st' := []) (h' := mx_wr p13 188 2 221) (P := (((mxT 188).1 = 54 ∧ 188 < 100 + mx_c p13) ∧ ((mxT 221).1 = 9 ∧ 221 < 100 + mx_c p13) ∧ vp_in 2 (mxT 188).2) ∧ True) 2 rfl rfl ⟨⟨⟨rfl, by omega⟩, ⟨rfl, by omega⟩, vpl (by decide +kernel)⟩, trivial⟩ ?_
  refine wp_J rfl rfl ?_
  show mx_wp (d + 2) 131 70 [some (.ref 100), some (.int 3)] [] (mx_wr p13 188 2 221) Q
  obtain ⟨g14, eg14⟩ : ∃ z, z = mx_wr p13 188 2 221 := ⟨_, rfl⟩
  rw [← eg14]
  have hc14 : mx_c g14 = 137 := by rw [eg14]; show mx_c p13 = _; rw [cp13]
  have E14 : g14 = crun ([(0, 9, 0, 0, 0)] ++ cop_102 221 122 ++ [(2, 188, 2, 221, 0)]) g13 := by rw [crun_app, crun_app, eg14, ep13, em13]; rfl
  have R14 : mx_r g14 100 11 = 188 := by rw [E14, crun_r, hc13, R13]; decide +kernel
  refine wp_steps (i' := 72) (ls' := [some (.ref 100), some (.int 3)]) (st' := [.int 12, .int 3]) (h' := g14) (P := True) 2 rfl rfl trivial ?_
  refine wp_br (P := True) rfl rfl trivial (fun c => absurd c (by unfold mx_q2; decide)) (fun _ => ?_)
  refine wp_steps (i' := 75) (ls' := [some (.ref 100), some (.int 3)]) (st' := [.ref (mx_r g14 100 11)]) (h' := g14) (P := ((mxT 100).1 = 10 ∧ 100 < 100 + mx_c g14) ∧ True) 2 rfl rfl ⟨⟨rfl, by omega⟩, trivial⟩ ?_
  rw [R14]
  refine wp_steps (i' := 78) (ls' := [some (.ref 100), some (.int 3)]) (st' := [.ref (100 + mx_c g14), .ref (100 + mx_c g14), .int 3, .ref 188]) (h' := mx_mk g14 9) (P := ((mxT (100 + mx_c g14)).1 = 9 ∧ mx_c g14 < 292) ∧ True) 3 rfl rfl ⟨⟨by rw [hc14]; rfl, by omega⟩, trivial⟩ ?_
  obtain ⟨m14, em14⟩ : ∃ z, z = mx_mk g14 9 := ⟨_, rfl⟩
  rw [← em14, hc14]
  have cm14 : mx_c m14 = 138 := by rw [em14]; show mx_c g14 + 1 = _; rw [hc14]
  show mx_wp (d + 2) 131 78 [some (.ref 100), some (.int 3)] [.ref 237, .ref 237, .int 3, .ref 188] m14 Q
  refine wp_call (b := true) (y' := 102) (as := [.ref 237]) (rest := [.ref 237, .int 3, .ref 188]) (P := 100 ≤ 237) rfl (by with_unfolding_all rfl) (by decide) (Nat.le_of_ble_eq_true rfl) (ct_102 (d := d) (by decide +kernel) (by decide) (by omega) (by rw [cm14]; unfold shp; decide +kernel) (by omega) (fun p14 ep14 cp14 => ?_))
  show mx_wp (d + 2) 131 79 [some (.ref 100), some (.int 3)] [.ref 237, .int 3, .ref 188] p14 Q
  rw [cm14] at ep14 cp14
  refine wp_steps (i' := 81) (ls' := [some (.ref 100), some (.int 4)]) (st' := []) (h' := mx_wr p14 188 3 237) (P := (((mxT 188).1 = 54 ∧ 188 < 100 + mx_c p14) ∧ ((mxT 237).1 = 9 ∧ 237 < 100 + mx_c p14) ∧ vp_in 3 (mxT 188).2) ∧ True) 2 rfl rfl ⟨⟨⟨rfl, by omega⟩, ⟨rfl, by omega⟩, vpl (by decide +kernel)⟩, trivial⟩ ?_
  refine wp_J rfl rfl ?_
  show mx_wp (d + 2) 131 70 [some (.ref 100), some (.int 4)] [] (mx_wr p14 188 3 237) Q
  obtain ⟨g15, eg15⟩ : ∃ z, z = mx_wr p14 188 3 237 := ⟨_, rfl⟩
  rw [← eg15]
  have hc15 : mx_c g15 = 153 := by rw [eg15]; show mx_c p14 = _; rw [cp14]
  have E15 : g15 = crun ([(0, 9, 0, 0, 0)] ++ cop_102 237 138 ++ [(2, 188, 3, 237, 0)]) g14 := by rw [crun_app, crun_app, eg15, ep14, em14]; rfl
  have R15 : mx_r g15 100 11 = 188 := by rw [E15, crun_r, hc14, R14]; decide +kernel
  refine wp_steps (i' := 72) (ls' := [some (.ref 100), some (.int 4)]) (st' := [.int 12, .int 4]) (h' := g15) (P := True) 2 rfl rfl trivial ?_
  refine wp_br (P := True) rfl rfl trivial (fun c => absurd c (by unfold mx_q2; decide)) (fun _ => ?_)
  refine wp_steps (i' := 75) (ls' := [some (.ref 100), some (.int 4)]) (st' := [.ref (mx_r g15 100 11)]) (h' := g15) (P := ((mxT 100).1 = 10 ∧ 100 < 100 + mx_c g15) ∧ True) 2 rfl rfl ⟨⟨rfl, by omega⟩, trivial⟩ ?_
  rw [R15]
  refine wp_steps (i' := 78) (ls' := [some (.ref 100), some (.int 4)]) (st' := [.ref (100 + mx_c g15), .ref (100 + mx_c g15), .int 4, .ref 188]) (h' := mx_mk g15 9) (P := ((mxT (100 + mx_c g15)).1 = 9 ∧ mx_c g15 < 292) ∧ True) 3 rfl rfl ⟨⟨by rw [hc15]; rfl, by omega⟩, trivial⟩ ?_
  obtain ⟨m15, em15⟩ : ∃ z, z = mx_mk g15 9 := ⟨_, rfl⟩
  rw [← em15, hc15]
  have cm15 : mx_c m15 = 154 := by rw [em15]; show mx_c g15 + 1 = _; rw [hc15]
  show mx_wp (d + 2) 131 78 [some (.ref 100), some (.int 4)] [.ref 253, .ref 253, .int 4, .ref 188] m15 Q
  refine wp_call (b := true) (y' := 102) (as := [.ref 253]) (rest := [.ref 253, .int 4, .ref 188]) (P := 100 ≤ 253) rfl (by with_unfolding_all rfl) (by decide) (Nat.le_of_ble_eq_true rfl) (ct_102 (d := d) (by decide +kernel) (by decide) (by omega) (by rw [cm15]; unfold shp; decide +kernel) (by omega) (fun p15 ep15 cp15 => ?_))
  show mx_wp (d + 2) 131 79 [some (.ref 100), some (.int 4)] [.ref 253, .int 4, .ref 188] p15 Q
  rw [cm15] at ep15 cp15
  refine wp_steps (i' := 81) (ls' := [some (.ref 100), some (.int 5)]) (st' := []) (h' := mx_wr p15 188 4 253) (P := (((mxT 188).1 = 54 ∧ 188 < 100 + mx_c p15) ∧ ((mxT 253).1 = 9 ∧ 253 < 100 + mx_c p15) ∧ vp_in 4 (mxT 188).2) ∧ True) 2 rfl rfl ⟨⟨⟨rfl, by omega⟩, ⟨rfl, by omega⟩, vpl (by decide +kernel)⟩, trivial⟩ ?_
  refine wp_J rfl rfl ?_
  show mx_wp (d + 2) 131 70 [some (.ref 100), some (.int 5)] [] (mx_wr p15 188 4 253) Q
  obtain ⟨g16, eg16⟩ : ∃ z, z = mx_wr p15 188 4 253 := ⟨_, rfl⟩
  rw [← eg16]
  have hc16 : mx_c g16 = 169 := by rw [eg16]; show mx_c p15 = _; rw [cp15]
  have E16 : g16 = crun ([(0, 9, 0, 0, 0)] ++ cop_102 253 154 ++ [(2, 188, 4, 253, 0)]) g15 := by rw [crun_app, crun_app, eg16, ep15, em15]; rfl
  have R16 : mx_r g16 100 11 = 188 := by rw [E16, crun_r, hc15, R15]; decide +kernel
  refine wp_steps (i' := 72) (ls' := [some (.ref 100), some (.int 5)]) (st' := [.int 12, .int 5]) (h' := g16) (P := True) 2 rfl rfl trivial ?_
  refine wp_br (P := True) rfl rfl trivial (fun c => absurd c (by unfold mx_q2; decide)) (fun _ => ?_)
  refine wp_steps (i' := 75) (ls' := [some (.ref 100), some (.int 5)]) (st' := [.ref (mx_r g16 100 11)]) (h' := g16) (P := ((mxT 100).1 = 10 ∧ 100 < 100 + mx_c g16) ∧ True) 2 rfl rfl ⟨⟨rfl, by omega⟩, trivial⟩ ?_
  rw [R16]
  refine wp_steps (i' := 78) (ls' := [some (.ref 100), some (.int 5)]) (st' := [.ref (100 + mx_c g16), .ref (100 + mx_c g16), .int 5, .ref 188]) (h' := mx_mk g16 9) (P := ((mxT (100 + mx_c g16)).1 = 9 ∧ mx_c g16 < 292) ∧ True) 3 rfl rfl ⟨⟨by rw [hc16]; rfl, by omega⟩, trivial⟩ ?_
  obtain ⟨m16, em16⟩ : ∃ z, z = mx_mk g16 9 := ⟨_, rfl⟩
  rw [← em16, hc16]
  have cm16 : mx_c m16 = 170 := by rw [em16]; show mx_c g16 + 1 = _; rw [hc16]
  show mx_wp (d + 2) 131 78 [some (.ref 100), some (.int 5)] [.ref 269, .ref 269, .int 5, .ref 188] m16 Q
  refine wp_call (b := true) (y' := 102) (as := [.ref 269]) (rest := [.ref 269, .int 5, .ref 188]) (P := 100 ≤ 269) rfl (by with_unfolding_all rfl) (by decide) (Nat.le_of_ble_eq_true rfl) (ct_102 (d := d) (by decide +kernel) (by decide) (by omega) (by rw [cm16]; unfold shp; decide +kernel) (by omega) (fun p16 ep16 cp16 => ?_))
  show mx_wp (d + 2) 131 79 [some (.ref 100), some (.int 5)] [.ref 269, .int 5, .ref 188] p16 Q
  rw [cm16] at ep16 cp16
  refine wp_steps (i' := 81) (ls' := [some (.ref 100), some (.int 6)]) (st' := []) (h' := mx_wr p16 188 5 269) (P := (((mxT 188).1 = 54 ∧ 188 < 100 + mx_c p16) ∧ ((mxT 269).1 = 9 ∧ 269 < 100 + mx_c p16) ∧ vp_in 5 (mxT 188).2) ∧ True) 2 rfl rfl ⟨⟨⟨rfl, by omega⟩, ⟨rfl, by omega⟩, vpl (by decide +kernel)⟩, trivial⟩ ?_
  refine wp_J rfl rfl ?_
  show mx_wp (d + 2) 131 70 [some (.ref 100), some (.int 6)] [] (mx_wr p16 188 5 269) Q
  obtain ⟨g17, eg17⟩ : ∃ z, z = mx_wr p16 188 5 269 := ⟨_, rfl⟩
  rw [← eg17]
  have hc17 : mx_c g17 = 185 := by rw [eg17]; show mx_c p16 = _; rw [cp16]
  have E17 : g17 = crun ([(0, 9, 0, 0, 0)] ++ cop_102 269 170 ++ [(2, 188, 5, 269, 0)]) g16 := by rw [crun_app, crun_app, eg17, ep16, em16]; rfl
  have R17 : mx_r g17 100 11 = 188 := by rw [E17, crun_r, hc16, R16]; decide +kernel
  refine wp_steps (i' := 72) (ls' := [some (.ref 100), some (.int 6)]) (st' := [.int 12, .int 6]) (h' := g17) (P := True) 2 rfl rfl trivial ?_
  refine wp_br (P := True) rfl rfl trivial (fun c => absurd c (by unfold mx_q2; decide)) (fun _ => ?_)
  refine wp_steps (i' := 75) (ls' := [some (.ref 100), some (.int 6)]) (st' := [.ref (mx_r g17 100 11)]) (h' := g17) (P := ((mxT 100).1 = 10 ∧ 100 < 100 + mx_c g17) ∧ True) 2 rfl rfl ⟨⟨rfl, by omega⟩, trivial⟩ ?_
  rw [R17]
  refine wp_steps (i' := 78) (ls' := [some (.ref 100), some (.int 6)]) (st' := [.ref (100 + mx_c g17), .ref (100 + mx_c g17), .int 6, .ref 188]) (h' := mx_mk g17 9) (P := ((mxT (100 + mx_c g17)).1 = 9 ∧ mx_c g17 < 292) ∧ True) 3 rfl rfl ⟨⟨by rw [hc17]; rfl, by omega⟩, trivial⟩ ?_
  obtain ⟨m17, em17⟩ : ∃ z, z = mx_mk g17 9 := ⟨_, rfl⟩
  rw [← em17, hc17]
  have cm17 : mx_c m17 = 186 := by rw [em17]; show mx_c g17 + 1 = _; rw [hc17]
  show mx_wp (d + 2) 131 78 [some (.ref 100), some (.int 6)] [.ref 285, .ref 285, .int 6, .ref 188] m17 Q
  refine wp_call (b := true) (y' := 102) (as := [.ref 285]) (rest := [.ref 285, .int 6, .ref 188]) (P := 100 ≤ 285) rfl (by with_unfolding_all rfl) (by decide) (Nat.le_of_ble_eq_true rfl) (ct_102 (d := d) (by decide +kernel) (by decide) (by omega) (by rw [cm17]; unfold shp; decide +kernel) (by omega) (fun p17 ep17 cp17 => ?_))
  show mx_wp (d + 2) 131 79 [some (.ref 100), some (.int 6)] [.ref 285, .int 6, .ref 188] p17 Q
  rw [cm17] at ep17 cp17
  refine wp_steps (i' := 81) (ls' := [some (.ref 100), some (.int 7)]) (st' := []) (h' := mx_wr p17 188 6 285) (P := (((mxT 188).1 = 54 ∧ 188 < 100 + mx_c p17) ∧ ((mxT 285).1 = 9 ∧ 285 < 100 + mx_c p17) ∧ vp_in 6 (mxT 188).2) ∧ True) 2 rfl rfl ⟨⟨⟨rfl, by omega⟩, ⟨rfl, by omega⟩, vpl (by decide +kernel)⟩, trivial⟩ ?_
  refine wp_J rfl rfl ?_
  show mx_wp (d + 2) 131 70 [some (.ref 100), some (.int 7)] [] (mx_wr p17 188 6 285) Q
  obtain ⟨g18, eg18⟩ : ∃ z, z = mx_wr p17 188 6 285 := ⟨_, rfl⟩
  rw [← eg18]
  have hc18 : mx_c g18 = 201 := by rw [eg18]; show mx_c p17 = _; rw [cp17]
  have E18 : g18 = crun ([(0, 9, 0, 0, 0)] ++ cop_102 285 186 ++ [(2, 188, 6, 285, 0)]) g17 := by rw [crun_app, crun_app, eg18, ep17, em17]; rfl
  have R18 : mx_r g18 100 11 = 188 := by rw [E18, crun_r, hc17, R17]; decide +kernel
  refine wp_steps (i' := 72) (ls' := [some (.ref 100), some (.int 7)]) (st' := [.int 12, .int 7]) (h' := g18) (P := True) 2 rfl rfl trivial ?_
  refine wp_br (P := True) rfl rfl trivial (fun c => absurd c (by unfold mx_q2; decide)) (fun _ => ?_)
  refine wp_steps (i' := 75) (ls' := [some (.ref 100), some (.int 7)]) (st' := [.ref (mx_r g18 100 11)]) (h' := g18) (P := ((mxT 100).1 = 10 ∧ 100 < 100 + mx_c g18) ∧ True) 2 rfl rfl ⟨⟨rfl, by omega⟩, trivial⟩ ?_
  rw [R18]
  refine wp_steps (i' := 78) (ls' := [some (.ref 100), some (.int 7)]) (st' := [.ref (100 + mx_c g18), .ref (100 + mx_c g18), .int 7, .ref 188]) (h' := mx_mk g18 9) (P := ((mxT (100 + mx_c g18)).1 = 9 ∧ mx_c g18 < 292) ∧ True) 3 rfl rfl ⟨⟨by rw [hc18]; rfl, by omega⟩, trivial⟩ ?_
  obtain ⟨m18, em18⟩ : ∃ z, z = mx_mk g18 9 := ⟨_, rfl⟩
  rw [← em18, hc18]
  have cm18 : mx_c m18 = 202 := by rw [em18]; show mx_c g18 + 1 = _; rw [hc18]
  show mx_wp (d + 2) 131 78 [some (.ref 100), some (.int 7)] [.ref 301, .ref 301, .int 7, .ref 188] m18 Q
  refine wp_call (b := true) (y' := 102) (as := [.ref 301]) (rest := [.ref 301, .int 7, .ref 188]) (P := 100 ≤ 301) rfl (by with_unfolding_all rfl) (by decide) (Nat.le_of_ble_eq_true rfl) (ct_102 (d := d) (by decide +kernel) (by decide) (by omega) (by rw [cm18]; unfold shp; decide +kernel) (by omega) (fun p18 ep18 cp18 => ?_))
  show mx_wp (d + 2) 131 79 [some (.ref 100), some (.int 7)] [.ref 301, .int 7, .ref 188] p18 Q
  rw [cm18] at ep18 cp18
  refine wp_steps (i' := 81) (ls' := [some (.ref 100), some (.int 8)]) (st' := []) (h' := mx_wr p18 188 7 301) (P := (((mxT 188).1 = 54 ∧ 188 < 100 + mx_c p18) ∧ ((mxT 301).1 = 9 ∧ 301 < 100 + mx_c p18) ∧ vp_in 7 (mxT 188).2) ∧ True) 2 rfl rfl ⟨⟨⟨rfl, by omega⟩, ⟨rfl, by omega⟩, vpl (by decide +kernel)⟩, trivial⟩ ?_
  refine wp_J rfl rfl ?_
  show mx_wp (d + 2) 131 70 [some (.ref 100), some (.int 8)] [] (mx_wr p18 188 7 301) Q
  obtain ⟨g19, eg19⟩ : ∃ z, z = mx_wr p18 188 7 301 := ⟨_, rfl⟩
  rw [← eg19]
  have hc19 : mx_c g19 = 217 := by rw [eg19]; show mx_c p18 = _; rw [cp18]
  have E19 : g19 = crun ([(0, 9, 0, 0, 0)] ++ cop_102 301 202 ++ [(2, 188, 7, 301, 0)]) g18 := by rw [crun_app, crun_app, eg19, ep18, em18]; rfl
  have R19 : mx_r g19 100 11 = 188 := by rw [E19, crun_r, hc18, R18]; decide +kernel
  refine wp_steps (i' := 72) (ls' := [some (.ref 100), some (.int 8)]) (st' := [.int 12, .int 8]) (h' := g19) (P := True) 2 rfl rfl trivial ?_
  refine wp_br (P := True) rfl rfl trivial (fun c => absurd c (by unfold mx_q2; decide)) (fun _ => ?_)
  refine wp_steps (i' := 75) (ls' := [some (.ref 100), some (.int 8)]) (st' := [.ref (mx_r g19 100 11)]) (h' := g19) (P := ((mxT 100).1 = 10 ∧ 100 < 100 + mx_c g19) ∧ True) 2 rfl rfl ⟨⟨rfl, by omega⟩, trivial⟩ ?_
  rw [R19]
  refine wp_steps (i' := 78) (ls' := [some (.ref 100), some (.int 8)]) (st' := [.ref (100 + mx_c g19), .ref (100 + mx_c g19), .int 8, .ref 188]) (h' := mx_mk g19 9) (P := ((mxT (100 + mx_c g19)).1 = 9 ∧ mx_c g19 < 292) ∧ True) 3 rfl rfl ⟨⟨by rw [hc19]; rfl, by omega⟩, trivial⟩ ?_
  obtain ⟨m19, em19⟩ : ∃ z, z = mx_mk g19 9 := ⟨_, rfl⟩
  rw [← em19, hc19]
  have cm19 : mx_c m19 = 218 := by rw [em19]; show mx_c g19 + 1 = _; rw [hc19]
  show mx_wp (d + 2) 131 78 [some (.ref 100), some (.int 8)] [.ref 317, .ref 317, .int 8, .ref 188] m19 Q
  refine wp_call (b := true) (y' := 102) (as := [.ref 317]) (rest := [.ref 317, .int 8, .ref 188]) (P := 100 ≤ 317) rfl (by with_unfolding_all rfl) (by decide) (Nat.le_of_ble_eq_true rfl) (ct_102 (d := d) (by decide +kernel) (by decide) (by omega) (by rw [cm19]; unfold shp; decide +kernel) (by omega) (fun p19 ep19 cp19 => ?_))
  show mx_wp (d + 2) 131 79 [some (.ref 100), some (.int 8)] [.ref 317, .int 8, .ref 188] p19 Q
  rw [cm19] at ep19 cp19
  refine wp_steps (i' := 81) (ls' := [some (.ref 100), some (.int 9)]) (st' := []) (h' := mx_wr p19 188 8 317) (P := (((mxT 188).1 = 54 ∧ 188 < 100 + mx_c p19) ∧ ((mxT 317).1 = 9 ∧ 317 < 100 + mx_c p19) ∧ vp_in 8 (mxT 188).2) ∧ True) 2 rfl rfl ⟨⟨⟨rfl, by omega⟩, ⟨rfl, by omega⟩, vpl (by decide +kernel)⟩, trivial⟩ ?_
  refine wp_J rfl rfl ?_
  show mx_wp (d + 2) 131 70 [some (.ref 100), some (.int 9)] [] (mx_wr p19 188 8 317) Q
  obtain ⟨g20, eg20⟩ : ∃ z, z = mx_wr p19 188 8 317 := ⟨_, rfl⟩
  rw [← eg20]
  have hc20 : mx_c g20 = 233 := by rw [eg20]; show mx_c p19 = _; rw [cp19]
  have E20 : g20 = crun ([(0, 9, 0, 0, 0)] ++ cop_102 317 218 ++ [(2, 188, 8, 317, 0)]) g19 := by rw [crun_app, crun_app, eg20, ep19, em19]; rfl
  have R20 : mx_r g20 100 11 = 188 := by rw [E20, crun_r, hc19, R19]; decide +kernel
  refine wp_steps (i' := 72) (ls' := [some (.ref 100), some (.int 9)]) (st' := [.int 12, .int 9]) (h' := g20) (P := True) 2 rfl rfl trivial ?_
  refine wp_br (P := True) rfl rfl trivial (fun c => absurd c (by unfold mx_q2; decide)) (fun _ => ?_)
  refine wp_steps (i' := 75) (ls' := [some (.ref 100), some (.int 9)]) (st' := [.ref (mx_r g20 100 11)]) (h' := g20) (P := ((mxT 100).1 = 10 ∧ 100 < 100 + mx_c g20) ∧ True) 2 rfl rfl ⟨⟨rfl, by omega⟩, trivial⟩ ?_
  rw [R20]
  refine wp_steps (i' := 78) (ls' := [some (.ref 100), some (.int 9)]) (st' := [.ref (100 + mx_c g20), .ref (100 + mx_c g20), .int 9, .ref 188]) (h' := mx_mk g20 9) (P := ((mxT (100 + mx_c g20)).1 = 9 ∧ mx_c g20 < 292) ∧ True) 3 rfl rfl ⟨⟨by rw [hc20]; rfl, by omega⟩, trivial⟩ ?_
  obtain ⟨m20, em20⟩ : ∃ z, z = mx_mk g20 9 := ⟨_, rfl⟩
  rw [← em20, hc20]
  have cm20 : mx_c m20 = 234 := by rw [em20]; show mx_c g20 + 1 = _; rw [hc20]
  show mx_wp (d + 2) 131 78 [some (.ref 100), some (.int 9)] [.ref 333, .ref 333, .int 9, .ref 188] m20 Q
  refine wp_call (b := true) (y' := 102) (as := [.ref 333]) (rest := [.ref 333, .int 9, .ref 188]) (P := 100 ≤ 333) rfl (by with_unfolding_all rfl) (by decide) (Nat.le_of_ble_eq_true rfl) (ct_102 (d := d) (by decide +kernel) (by decide) (by omega) (by rw [cm20]; unfold shp; decide +kernel) (by omega) (fun p20 ep20 cp20 => ?_))
  show mx_wp (d + 2) 131 79 [some (.ref 100), some (.int 9)] [.ref 333, .int 9, .ref 188] p20 Q
  rw [cm20] at ep20 cp20
  refine wp_steps (i' := 81) (ls' := [some (.ref 100), some (.int 10)]) (st' := []) (h' := mx_wr p20 188 9 333) (P := (((mxT 188).1 = 54 ∧ 188 < 100 + mx_c p20) ∧ ((mxT 333).1 = 9 ∧ 333 < 100 + mx_c p20) ∧ vp_in 9 (mxT 188).2) ∧ True) 2 rfl rfl ⟨⟨⟨rfl, by omega⟩, ⟨rfl, by omega⟩, vpl (by decide +kernel)⟩, trivial⟩ ?_
  refine wp_J rfl rfl ?_
  show mx_wp (d + 2) 131 70 [some (.ref 100), some (.int 10)] [] (mx_wr p20 188 9 333) Q
  obtain ⟨g21, eg21⟩ : ∃ z, z = mx_wr p20 188 9 333 := ⟨_, rfl⟩
  rw [← eg21]
  have hc21 : mx_c g21 = 249 := by rw [eg21]; show mx_c p20 = _; rw [cp20]
  have E21 : g21 = crun ([(0, 9, 0, 0, 0)] ++ cop_102 333 234 ++ [(2, 188, 9, 333, 0)]) g20 := by rw [crun_app, crun_app, eg21, ep20, em20]; rfl
  have R21 : mx_r g21 100 11 = 188 := by rw [E21, crun_r, hc20, R20]; decide +kernel
  refine wp_steps (i' := 72) (ls' := [some (.ref 100), some (.int 10)]) (st' := [.int 12, .int 10]) (h' := g21) (P := True) 2 rfl rfl trivial ?_
  refine wp_br (P := True) rfl rfl trivial (fun c => absurd c (by unfold mx_q2; decide)) (fun _ => ?_)
  refine wp_steps (i' := 75) (ls' := [some (.ref 100), some (.int 10)]) (st' := [.ref (mx_r g21 100 11)]) (h' := g21) (P := ((mxT 100).1 = 10 ∧ 100 < 100 + mx_c g21) ∧ True) 2 rfl rfl ⟨⟨rfl, by omega⟩, trivial⟩ ?_
  rw [R21]
  refine wp_steps (i' := 78) (ls' := [some (.ref 100), some (.int 10)]) (st' := [.ref (100 + mx_c g21), .ref (100 + mx_c g21), .int 10, .ref 188]) (h' := mx_mk g21 9) (P := ((mxT (100 + mx_c g21)).1 = 9 ∧ mx_c g21 < 292) ∧ True) 3 rfl rfl ⟨⟨by rw [hc21]; rfl, by omega⟩, trivial⟩ ?_
  obtain ⟨m21, em21⟩ : ∃ z, z = mx_mk g21 9 := ⟨_, rfl⟩
  rw [← em21, hc21]
  have cm21 : mx_c m21 = 250 := by rw [em21]; show mx_c g21 + 1 = _; rw [hc21]
  show mx_wp (d + 2) 131 78 [some (.ref 100), some (.int 10)] [.ref 349, .ref 349, .int 10, .ref 188] m21 Q
  refine wp_call (b := true) (y' := 102) (as := [.ref 349]) (rest := [.ref 349, .int 10, .ref 188]) (P := 100 ≤ 349) rfl (by with_unfolding_all rfl) (by decide) (Nat.le_of_ble_eq_true rfl) (ct_102 (d := d) (by decide +kernel) (by decide) (by omega) (by rw [cm21]; unfold shp; decide +kernel) (by omega) (fun p21 ep21 cp21 => ?_))
  show mx_wp (d + 2) 131 79 [some (.ref 100), some (.int 10)] [.ref 349, .int 10, .ref 188] p21 Q
  rw [cm21] at ep21 cp21
  refine wp_steps (i' := 81) (ls' := [some (.ref 100), some (.int 11)]) (st' := []) (h' := mx_wr p21 188 10 349) (P := (((mxT 188).1 = 54 ∧ 188 < 100 + mx_c p21) ∧ ((mxT 349).1 = 9 ∧ 349 < 100 + mx_c p21) ∧ vp_in 10 (mxT 188).2) ∧ True) 2 rfl rfl ⟨⟨⟨rfl, by omega⟩, ⟨rfl, by omega⟩, vpl (by decide +kernel)⟩, trivial⟩ ?_
  refine wp_J rfl rfl ?_
  show mx_wp (d + 2) 131 70 [some (.ref 100), some (.int 11)] [] (mx_wr p21 188 10 349) Q
  obtain ⟨g22, eg22⟩ : ∃ z, z = mx_wr p21 188 10 349 := ⟨_, rfl⟩
  rw [← eg22]
  have hc22 : mx_c g22 = 265 := by rw [eg22]; show mx_c p21 = _; rw [cp21]
  have E22 : g22 = crun ([(0, 9, 0, 0, 0)] ++ cop_102 349 250 ++ [(2, 188, 10, 349, 0)]) g21 := by rw [crun_app, crun_app, eg22, ep21, em21]; rfl
  have R22 : mx_r g22 100 11 = 188 := by rw [E22, crun_r, hc21, R21]; decide +kernel
  refine wp_steps (i' := 72) (ls' := [some (.ref 100), some (.int 11)]) (st' := [.int 12, .int 11]) (h' := g22) (P := True) 2 rfl rfl trivial ?_
  refine wp_br (P := True) rfl rfl trivial (fun c => absurd c (by unfold mx_q2; decide)) (fun _ => ?_)
  refine wp_steps (i' := 75) (ls' := [some (.ref 100), some (.int 11)]) (st' := [.ref (mx_r g22 100 11)]) (h' := g22) (P := ((mxT 100).1 = 10 ∧ 100 < 100 + mx_c g22) ∧ True) 2 rfl rfl ⟨⟨rfl, by omega⟩, trivial⟩ ?_
  rw [R22]
  refine wp_steps (i' := 78) (ls' := [some (.ref 100), some (.int 11)]) (st' := [.ref (100 + mx_c g22), .ref (100 + mx_c g22), .int 11, .ref 188]) (h' := mx_mk g22 9) (P := ((mxT (100 + mx_c g22)).1 = 9 ∧ mx_c g22 < 292) ∧ True) 3 rfl rfl ⟨⟨by rw [hc22]; rfl, by omega⟩, trivial⟩ ?_
  obtain ⟨m22, em22⟩ : ∃ z, z = mx_mk g22 9 := ⟨_, rfl⟩
  rw [← em22, hc22]
  have cm22 : mx_c m22 = 266 := by rw [em22]; show mx_c g22 + 1 = _; rw [hc22]
  show mx_wp (d + 2) 131 78 [some (.ref 100), some (.int 11)] [.ref 365, .ref 365, .int 11, .ref 188] m22 Q
  refine wp_call (b := true) (y' := 102) (as := [.ref 365]) (rest := [.ref 365, .int 11, .ref 188]) (P := 100 ≤ 365) rfl (by with_unfolding_all rfl) (by decide) (Nat.le_of_ble_eq_true rfl) (ct_102 (d := d) (by decide +kernel) (by decide) (by omega) (by rw [cm22]; unfold shp; decide +kernel) (by omega) (fun p22 ep22 cp22 => ?_))
  show mx_wp (d + 2) 131 79 [some (.ref 100), some (.int 11)] [.ref 365, .int 11, .ref 188] p22 Q
  rw [cm22] at ep22 cp22
  refine wp_steps (i' := 81) (ls' := [some (.ref 100), some (.int 12)]) (st' := []) (h' := mx_wr p22 188 11 365) (P := (((mxT 188).1 = 54 ∧ 188 < 100 + mx_c p22) ∧ ((mxT 365).1 = 9 ∧ 365 < 100 + mx_c p22) ∧ vp_in 11 (mxT 188).2) ∧ True) 2 rfl rfl ⟨⟨⟨rfl, by omega⟩, ⟨rfl, by omega⟩, vpl (by decide +kernel)⟩, trivial⟩ ?_
  refine wp_J rfl rfl ?_
  show mx_wp (d + 2) 131 70 [some (.ref 100), some (.int 12)] [] (mx_wr p22 188 11 365) Q
  obtain ⟨g23, eg23⟩ : ∃ z, z = mx_wr p22 188 11 365 := ⟨_, rfl⟩
  rw [← eg23]
  have hc23 : mx_c g23 = 281 := by rw [eg23]; show mx_c p22 = _; rw [cp22]
  have E23 : g23 = crun ([(0, 9, 0, 0, 0)] ++ cop_102 365 266 ++ [(2, 188, 11, 365, 0)]) g22 := by rw [crun_app, crun_app, eg23, ep22, em22]; rfl
  refine wp_steps (i' := 72) (ls' := [some (.ref 100), some (.int 12)]) (st' := [.int 12, .int 12]) (h' := g23) (P := True) 2 rfl rfl trivial ?_
  refine wp_br (P := True) rfl rfl trivial (fun _ => ?_) (fun c => absurd (by unfold mx_q2; decide) c)
  show mx_wp (d + 2) 131 82 [some (.ref 100), some (.int 12)] [] g23 Q
  exact wp_end (o := .inl none) (h' := g23) (P := True) rfl rfl trivial (k g23 (by unfold cop_131; rw [crun_app, crun_app, crun_app, crun_app, crun_app, crun_app, crun_app, crun_app, crun_app, crun_app, crun_app, crun_app, crun_app, crun_app, crun_app, crun_app, crun_app, crun_app, crun_app, crun_app, crun_app, crun_app, ← E1, ← E2, ← E3, ← E4, ← E5, ← E6, ← E7, ← E8, ← E9, ← E10, ← E11, ← E12, ← E13, ← E14, ← E15, ← E16, ← E17, ← E18, ← E19, ← E20, ← E21, ← E22]; exact E23) hc23)
