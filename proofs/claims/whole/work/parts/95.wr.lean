/-! THE WRAPPERS of the law: an answer goes to out, an exception is told by a number -/
def wq (LV : Int32 → Int64) (cs : List (Nat × Int32)) (Q : mxO → mxH → Prop) : mxO → mxH → Prop := fun o h1 => mxG h1 ∧ match o with
  | .inl (some (.int v)) => Q (.inl (some (.int 0))) (mx_wl h1 391 0 (LV v))
  | .inr k => ∃ c, (k, c) ∈ cs ∧ Q (.inl (some (.int c))) h1
  | _ => False
set_option maxRecDepth 8000 in
theorem wr_314 {d : Nat} {h : mxH} {Q : mxO → mxH → Prop} (G : mxG h) (k : mx_wp d 134 0 (mx_fr 134 [.ref 100]) [] h (wq (fun v => v.toInt64) [(0, 1), (1, 2)] Q)) : mx_wp (d + 1) 314 0 (mx_fr 314 [.ref 100, .ref 391]) [] h Q := by
  show mx_wp (d + 1) 314 0 [some (.ref 100), some (.ref 391), none] [] h Q
  refine wp_steps (i' := 3) (ls' := [some (.ref 100), some (.ref 391), none]) (st' := [.ref 100, .int 0, .ref 391]) (h' := h) (P := True) 3 rfl rfl trivial ?_
  refine wp_call (b := false) (y' := 134) (as := [.ref 100]) (rest := [.int 0, .ref 391]) (P := ((mxT 100).1 = mxRc 134 ∧ mxG h)) rfl (by with_unfolding_all rfl) ⟨congrArg Prod.fst sT_100, G⟩ (Nat.le_of_ble_eq_true rfl) (mx_wp.mono (fun o h1 q => ?_) k)
  obtain ⟨G1, q⟩ := q
  match o, q with
  | .inl (some (.int v)), q =>
    show mx_wp (d + 1) 314 4 [some (.ref 100), some (.ref 391), none] [.int v, .int 0, .ref 391] h1 Q
    refine wp_steps (i' := 6) (ls' := [some (.ref 100), some (.ref 391), none]) (st' := []) (h' := mx_wl h1 391 0 v.toInt64) (P := (((mxT 391).1 = 52 ∧ mxG h1) ∧ vp_in 0 (mxT 391).2) ∧ True) 2 rfl rfl ⟨cA sT_391 G1 (vpl rfl), trivial⟩ ?_
    refine wp_J (j := 13) (st' := []) rfl rfl ?_
    refine wp_steps (i' := 14) (ls' := [some (.ref 100), some (.ref 391), none]) (st' := [.int 0]) (h' := mx_wl h1 391 0 (v.toInt64)) (P := True) 1 rfl rfl trivial ?_
    exact wp_end (o := .inl (some (.int 0))) (h' := mx_wl h1 391 0 (v.toInt64)) (P := True) rfl rfl trivial q
  | .inr k, q =>
    obtain ⟨c, hm, q⟩ := q
    simp only [List.mem_cons, Prod.mk.injEq, List.not_mem_nil, or_false] at hm
    rcases hm with ⟨rfl, rfl⟩ | ⟨rfl, rfl⟩
    · show mx_wp (d + 1) 314 8 [some (.ref 100), some (.ref 391), none] [] h1 Q
      refine wp_steps (i' := 9) (ls' := [some (.ref 100), some (.ref 391), none]) (st' := [.int 1]) (h' := h1) (P := True) 1 rfl rfl trivial ?_
      exact wp_end (o := .inl (some (.int 1))) (h' := h1) (P := True) rfl rfl trivial q
    · show mx_wp (d + 1) 314 11 [some (.ref 100), some (.ref 391), none] [] h1 Q
      refine wp_steps (i' := 12) (ls' := [some (.ref 100), some (.ref 391), none]) (st' := [.int 2]) (h' := h1) (P := True) 1 rfl rfl trivial ?_
      exact wp_end (o := .inl (some (.int 2))) (h' := h1) (P := True) rfl rfl trivial q
set_option maxRecDepth 8000 in
theorem wr_315 {d : Nat} {h : mxH} {Q : mxO → mxH → Prop} (G : mxG h) (k : mx_wp d 135 0 (mx_fr 135 [.ref 100]) [] h (wq (fun v => v.toInt64) [(0, 1)] Q)) : mx_wp (d + 1) 315 0 (mx_fr 315 [.ref 100, .ref 391]) [] h Q := by
  show mx_wp (d + 1) 315 0 [some (.ref 100), some (.ref 391), none] [] h Q
  refine wp_steps (i' := 3) (ls' := [some (.ref 100), some (.ref 391), none]) (st' := [.ref 100, .int 0, .ref 391]) (h' := h) (P := True) 3 rfl rfl trivial ?_
  refine wp_call (b := false) (y' := 135) (as := [.ref 100]) (rest := [.int 0, .ref 391]) (P := ((mxT 100).1 = mxRc 135 ∧ mxG h)) rfl (by with_unfolding_all rfl) ⟨congrArg Prod.fst sT_100, G⟩ (Nat.le_of_ble_eq_true rfl) (mx_wp.mono (fun o h1 q => ?_) k)
  obtain ⟨G1, q⟩ := q
  match o, q with
  | .inl (some (.int v)), q =>
    show mx_wp (d + 1) 315 4 [some (.ref 100), some (.ref 391), none] [.int v, .int 0, .ref 391] h1 Q
    refine wp_steps (i' := 6) (ls' := [some (.ref 100), some (.ref 391), none]) (st' := []) (h' := mx_wl h1 391 0 v.toInt64) (P := (((mxT 391).1 = 52 ∧ mxG h1) ∧ vp_in 0 (mxT 391).2) ∧ True) 2 rfl rfl ⟨cA sT_391 G1 (vpl rfl), trivial⟩ ?_
    refine wp_J (j := 10) (st' := []) rfl rfl ?_
    refine wp_steps (i' := 11) (ls' := [some (.ref 100), some (.ref 391), none]) (st' := [.int 0]) (h' := mx_wl h1 391 0 (v.toInt64)) (P := True) 1 rfl rfl trivial ?_
    exact wp_end (o := .inl (some (.int 0))) (h' := mx_wl h1 391 0 (v.toInt64)) (P := True) rfl rfl trivial q
  | .inr k, q =>
    obtain ⟨c, hm, q⟩ := q
    simp only [List.mem_cons, Prod.mk.injEq, List.not_mem_nil, or_false] at hm
    rcases hm with ⟨rfl, rfl⟩
    · show mx_wp (d + 1) 315 8 [some (.ref 100), some (.ref 391), none] [] h1 Q
      refine wp_steps (i' := 9) (ls' := [some (.ref 100), some (.ref 391), none]) (st' := [.int 1]) (h' := h1) (P := True) 1 rfl rfl trivial ?_
      exact wp_end (o := .inl (some (.int 1))) (h' := h1) (P := True) rfl rfl trivial q
set_option maxRecDepth 8000 in
theorem wr_316 {d : Nat} {h : mxH} {Q : mxO → mxH → Prop} {i1 : Int32} {i2 : Int32} (G : mxG h) (k : mx_wp d 138 0 (mx_fr 138 [.ref 100, .int i1, .int i2]) [] h (wq (fun v => v.toInt64) [(2, 1), (3, 2)] Q)) : mx_wp (d + 1) 316 0 (mx_fr 316 [.ref 100, .int i1, .int i2, .ref 391]) [] h Q := by
  show mx_wp (d + 1) 316 0 [some (.ref 100), some (.int i1), some (.int i2), some (.ref 391), none] [] h Q
  refine wp_steps (i' := 5) (ls' := [some (.ref 100), some (.int i1), some (.int i2), some (.ref 391), none]) (st' := [.int i2, .int i1, .ref 100, .int 0, .ref 391]) (h' := h) (P := True) 5 rfl rfl trivial ?_
  refine wp_call (b := false) (y' := 138) (as := [.ref 100, .int i1, .int i2]) (rest := [.int 0, .ref 391]) (P := ((mxT 100).1 = mxRc 138 ∧ mxG h)) rfl (by with_unfolding_all rfl) ⟨congrArg Prod.fst sT_100, G⟩ (Nat.le_of_ble_eq_true rfl) (mx_wp.mono (fun o h1 q => ?_) k)
  obtain ⟨G1, q⟩ := q
  match o, q with
  | .inl (some (.int v)), q =>
    show mx_wp (d + 1) 316 6 [some (.ref 100), some (.int i1), some (.int i2), some (.ref 391), none] [.int v, .int 0, .ref 391] h1 Q
    refine wp_steps (i' := 8) (ls' := [some (.ref 100), some (.int i1), some (.int i2), some (.ref 391), none]) (st' := []) (h' := mx_wl h1 391 0 v.toInt64) (P := (((mxT 391).1 = 52 ∧ mxG h1) ∧ vp_in 0 (mxT 391).2) ∧ True) 2 rfl rfl ⟨cA sT_391 G1 (vpl rfl), trivial⟩ ?_
    refine wp_J (j := 15) (st' := []) rfl rfl ?_
    refine wp_steps (i' := 16) (ls' := [some (.ref 100), some (.int i1), some (.int i2), some (.ref 391), none]) (st' := [.int 0]) (h' := mx_wl h1 391 0 (v.toInt64)) (P := True) 1 rfl rfl trivial ?_
    exact wp_end (o := .inl (some (.int 0))) (h' := mx_wl h1 391 0 (v.toInt64)) (P := True) rfl rfl trivial q
  | .inr k, q =>
    obtain ⟨c, hm, q⟩ := q
    simp only [List.mem_cons, Prod.mk.injEq, List.not_mem_nil, or_false] at hm
    rcases hm with ⟨rfl, rfl⟩ | ⟨rfl, rfl⟩
    · show mx_wp (d + 1) 316 10 [some (.ref 100), some (.int i1), some (.int i2), some (.ref 391), none] [] h1 Q
      refine wp_steps (i' := 11) (ls' := [some (.ref 100), some (.int i1), some (.int i2), some (.ref 391), none]) (st' := [.int 1]) (h' := h1) (P := True) 1 rfl rfl trivial ?_
      exact wp_end (o := .inl (some (.int 1))) (h' := h1) (P := True) rfl rfl trivial q
    · show mx_wp (d + 1) 316 13 [some (.ref 100), some (.int i1), some (.int i2), some (.ref 391), none] [] h1 Q
      refine wp_steps (i' := 14) (ls' := [some (.ref 100), some (.int i1), some (.int i2), some (.ref 391), none]) (st' := [.int 2]) (h' := h1) (P := True) 1 rfl rfl trivial ?_
      exact wp_end (o := .inl (some (.int 2))) (h' := h1) (P := True) rfl rfl trivial q
set_option maxRecDepth 8000 in
theorem wr_317 {d : Nat} {h : mxH} {Q : mxO → mxH → Prop} {i1 : Int32} {i2 : Int32} (G : mxG h) (k : mx_wp d 139 0 (mx_fr 139 [.ref 100, .int i1, .int i2]) [] h (wq (fun v => v.toInt64) [(2, 1), (3, 2)] Q)) : mx_wp (d + 1) 317 0 (mx_fr 317 [.ref 100, .int i1, .int i2, .ref 391]) [] h Q := by
  show mx_wp (d + 1) 317 0 [some (.ref 100), some (.int i1), some (.int i2), some (.ref 391), none] [] h Q
  refine wp_steps (i' := 5) (ls' := [some (.ref 100), some (.int i1), some (.int i2), some (.ref 391), none]) (st' := [.int i2, .int i1, .ref 100, .int 0, .ref 391]) (h' := h) (P := True) 5 rfl rfl trivial ?_
  refine wp_call (b := false) (y' := 139) (as := [.ref 100, .int i1, .int i2]) (rest := [.int 0, .ref 391]) (P := ((mxT 100).1 = mxRc 139 ∧ mxG h)) rfl (by with_unfolding_all rfl) ⟨congrArg Prod.fst sT_100, G⟩ (Nat.le_of_ble_eq_true rfl) (mx_wp.mono (fun o h1 q => ?_) k)
  obtain ⟨G1, q⟩ := q
  match o, q with
  | .inl (some (.int v)), q =>
    show mx_wp (d + 1) 317 6 [some (.ref 100), some (.int i1), some (.int i2), some (.ref 391), none] [.int v, .int 0, .ref 391] h1 Q
    refine wp_steps (i' := 8) (ls' := [some (.ref 100), some (.int i1), some (.int i2), some (.ref 391), none]) (st' := []) (h' := mx_wl h1 391 0 v.toInt64) (P := (((mxT 391).1 = 52 ∧ mxG h1) ∧ vp_in 0 (mxT 391).2) ∧ True) 2 rfl rfl ⟨cA sT_391 G1 (vpl rfl), trivial⟩ ?_
    refine wp_J (j := 15) (st' := []) rfl rfl ?_
    refine wp_steps (i' := 16) (ls' := [some (.ref 100), some (.int i1), some (.int i2), some (.ref 391), none]) (st' := [.int 0]) (h' := mx_wl h1 391 0 (v.toInt64)) (P := True) 1 rfl rfl trivial ?_
    exact wp_end (o := .inl (some (.int 0))) (h' := mx_wl h1 391 0 (v.toInt64)) (P := True) rfl rfl trivial q
  | .inr k, q =>
    obtain ⟨c, hm, q⟩ := q
    simp only [List.mem_cons, Prod.mk.injEq, List.not_mem_nil, or_false] at hm
    rcases hm with ⟨rfl, rfl⟩ | ⟨rfl, rfl⟩
    · show mx_wp (d + 1) 317 10 [some (.ref 100), some (.int i1), some (.int i2), some (.ref 391), none] [] h1 Q
      refine wp_steps (i' := 11) (ls' := [some (.ref 100), some (.int i1), some (.int i2), some (.ref 391), none]) (st' := [.int 1]) (h' := h1) (P := True) 1 rfl rfl trivial ?_
      exact wp_end (o := .inl (some (.int 1))) (h' := h1) (P := True) rfl rfl trivial q
    · show mx_wp (d + 1) 317 13 [some (.ref 100), some (.int i1), some (.int i2), some (.ref 391), none] [] h1 Q
      refine wp_steps (i' := 14) (ls' := [some (.ref 100), some (.int i1), some (.int i2), some (.ref 391), none]) (st' := [.int 2]) (h' := h1) (P := True) 1 rfl rfl trivial ?_
      exact wp_end (o := .inl (some (.int 2))) (h' := h1) (P := True) rfl rfl trivial q
set_option maxRecDepth 8000 in
theorem wr_318 {d : Nat} {h : mxH} {Q : mxO → mxH → Prop} {i1 : Int32} {i2 : Int32} (G : mxG h) (k : mx_wp d 140 0 (mx_fr 140 [.ref 100, .int i1, .int i2]) [] h (wq (fun v => v.toInt64) [(2, 1), (3, 2)] Q)) : mx_wp (d + 1) 318 0 (mx_fr 318 [.ref 100, .int i1, .int i2, .ref 391]) [] h Q := by
  show mx_wp (d + 1) 318 0 [some (.ref 100), some (.int i1), some (.int i2), some (.ref 391), none] [] h Q
  refine wp_steps (i' := 5) (ls' := [some (.ref 100), some (.int i1), some (.int i2), some (.ref 391), none]) (st' := [.int i2, .int i1, .ref 100, .int 0, .ref 391]) (h' := h) (P := True) 5 rfl rfl trivial ?_
  refine wp_call (b := false) (y' := 140) (as := [.ref 100, .int i1, .int i2]) (rest := [.int 0, .ref 391]) (P := ((mxT 100).1 = mxRc 140 ∧ mxG h)) rfl (by with_unfolding_all rfl) ⟨congrArg Prod.fst sT_100, G⟩ (Nat.le_of_ble_eq_true rfl) (mx_wp.mono (fun o h1 q => ?_) k)
  obtain ⟨G1, q⟩ := q
  match o, q with
  | .inl (some (.int v)), q =>
    show mx_wp (d + 1) 318 6 [some (.ref 100), some (.int i1), some (.int i2), some (.ref 391), none] [.int v, .int 0, .ref 391] h1 Q
    refine wp_steps (i' := 8) (ls' := [some (.ref 100), some (.int i1), some (.int i2), some (.ref 391), none]) (st' := []) (h' := mx_wl h1 391 0 v.toInt64) (P := (((mxT 391).1 = 52 ∧ mxG h1) ∧ vp_in 0 (mxT 391).2) ∧ True) 2 rfl rfl ⟨cA sT_391 G1 (vpl rfl), trivial⟩ ?_
    refine wp_J (j := 15) (st' := []) rfl rfl ?_
    refine wp_steps (i' := 16) (ls' := [some (.ref 100), some (.int i1), some (.int i2), some (.ref 391), none]) (st' := [.int 0]) (h' := mx_wl h1 391 0 (v.toInt64)) (P := True) 1 rfl rfl trivial ?_
    exact wp_end (o := .inl (some (.int 0))) (h' := mx_wl h1 391 0 (v.toInt64)) (P := True) rfl rfl trivial q
  | .inr k, q =>
    obtain ⟨c, hm, q⟩ := q
    simp only [List.mem_cons, Prod.mk.injEq, List.not_mem_nil, or_false] at hm
    rcases hm with ⟨rfl, rfl⟩ | ⟨rfl, rfl⟩
    · show mx_wp (d + 1) 318 10 [some (.ref 100), some (.int i1), some (.int i2), some (.ref 391), none] [] h1 Q
      refine wp_steps (i' := 11) (ls' := [some (.ref 100), some (.int i1), some (.int i2), some (.ref 391), none]) (st' := [.int 1]) (h' := h1) (P := True) 1 rfl rfl trivial ?_
      exact wp_end (o := .inl (some (.int 1))) (h' := h1) (P := True) rfl rfl trivial q
    · show mx_wp (d + 1) 318 13 [some (.ref 100), some (.int i1), some (.int i2), some (.ref 391), none] [] h1 Q
      refine wp_steps (i' := 14) (ls' := [some (.ref 100), some (.int i1), some (.int i2), some (.ref 391), none]) (st' := [.int 2]) (h' := h1) (P := True) 1 rfl rfl trivial ?_
      exact wp_end (o := .inl (some (.int 2))) (h' := h1) (P := True) rfl rfl trivial q
set_option maxRecDepth 8000 in
theorem wr_319 {d : Nat} {h : mxH} {Q : mxO → mxH → Prop} {i1 : Int32} {i2 : Int32} (G : mxG h) (k : mx_wp d 141 0 (mx_fr 141 [.ref 100, .int i1, .int i2]) [] h (wq (fun v => v.toInt64) [(2, 1), (3, 2)] Q)) : mx_wp (d + 1) 319 0 (mx_fr 319 [.ref 100, .int i1, .int i2, .ref 391]) [] h Q := by
  show mx_wp (d + 1) 319 0 [some (.ref 100), some (.int i1), some (.int i2), some (.ref 391), none] [] h Q
  refine wp_steps (i' := 5) (ls' := [some (.ref 100), some (.int i1), some (.int i2), some (.ref 391), none]) (st' := [.int i2, .int i1, .ref 100, .int 0, .ref 391]) (h' := h) (P := True) 5 rfl rfl trivial ?_
  refine wp_call (b := false) (y' := 141) (as := [.ref 100, .int i1, .int i2]) (rest := [.int 0, .ref 391]) (P := ((mxT 100).1 = mxRc 141 ∧ mxG h)) rfl (by with_unfolding_all rfl) ⟨congrArg Prod.fst sT_100, G⟩ (Nat.le_of_ble_eq_true rfl) (mx_wp.mono (fun o h1 q => ?_) k)
  obtain ⟨G1, q⟩ := q
  match o, q with
  | .inl (some (.int v)), q =>
    show mx_wp (d + 1) 319 6 [some (.ref 100), some (.int i1), some (.int i2), some (.ref 391), none] [.int v, .int 0, .ref 391] h1 Q
    refine wp_steps (i' := 8) (ls' := [some (.ref 100), some (.int i1), some (.int i2), some (.ref 391), none]) (st' := []) (h' := mx_wl h1 391 0 v.toInt64) (P := (((mxT 391).1 = 52 ∧ mxG h1) ∧ vp_in 0 (mxT 391).2) ∧ True) 2 rfl rfl ⟨cA sT_391 G1 (vpl rfl), trivial⟩ ?_
    refine wp_J (j := 15) (st' := []) rfl rfl ?_
    refine wp_steps (i' := 16) (ls' := [some (.ref 100), some (.int i1), some (.int i2), some (.ref 391), none]) (st' := [.int 0]) (h' := mx_wl h1 391 0 (v.toInt64)) (P := True) 1 rfl rfl trivial ?_
    exact wp_end (o := .inl (some (.int 0))) (h' := mx_wl h1 391 0 (v.toInt64)) (P := True) rfl rfl trivial q
  | .inr k, q =>
    obtain ⟨c, hm, q⟩ := q
    simp only [List.mem_cons, Prod.mk.injEq, List.not_mem_nil, or_false] at hm
    rcases hm with ⟨rfl, rfl⟩ | ⟨rfl, rfl⟩
    · show mx_wp (d + 1) 319 10 [some (.ref 100), some (.int i1), some (.int i2), some (.ref 391), none] [] h1 Q
      refine wp_steps (i' := 11) (ls' := [some (.ref 100), some (.int i1), some (.int i2), some (.ref 391), none]) (st' := [.int 1]) (h' := h1) (P := True) 1 rfl rfl trivial ?_
      exact wp_end (o := .inl (some (.int 1))) (h' := h1) (P := True) rfl rfl trivial q
    · show mx_wp (d + 1) 319 13 [some (.ref 100), some (.int i1), some (.int i2), some (.ref 391), none] [] h1 Q
      refine wp_steps (i' := 14) (ls' := [some (.ref 100), some (.int i1), some (.int i2), some (.ref 391), none]) (st' := [.int 2]) (h' := h1) (P := True) 1 rfl rfl trivial ?_
      exact wp_end (o := .inl (some (.int 2))) (h' := h1) (P := True) rfl rfl trivial q
set_option maxRecDepth 8000 in
theorem wr_320 {d : Nat} {h : mxH} {Q : mxO → mxH → Prop} {i1 : Int32} {i2 : Int32} {i3 : Int32} (G : mxG h) (k : mx_wp d 143 0 (mx_fr 143 [.ref 100, .int i1, .int i2, .int i3]) [] h (wq (fun v => v.toInt64) [(2, 1), (0, 2), (4, 3)] Q)) : mx_wp (d + 1) 320 0 (mx_fr 320 [.ref 100, .int i1, .int i2, .int i3, .ref 391]) [] h Q := by
  show mx_wp (d + 1) 320 0 [some (.ref 100), some (.int i1), some (.int i2), some (.int i3), some (.ref 391), none] [] h Q
  refine wp_steps (i' := 6) (ls' := [some (.ref 100), some (.int i1), some (.int i2), some (.int i3), some (.ref 391), none]) (st' := [.int i3, .int i2, .int i1, .ref 100, .int 0, .ref 391]) (h' := h) (P := True) 6 rfl rfl trivial ?_
  refine wp_call (b := false) (y' := 143) (as := [.ref 100, .int i1, .int i2, .int i3]) (rest := [.int 0, .ref 391]) (P := ((mxT 100).1 = mxRc 143 ∧ mxG h)) rfl (by with_unfolding_all rfl) ⟨congrArg Prod.fst sT_100, G⟩ (Nat.le_of_ble_eq_true rfl) (mx_wp.mono (fun o h1 q => ?_) k)
  obtain ⟨G1, q⟩ := q
  match o, q with
  | .inl (some (.int v)), q =>
    show mx_wp (d + 1) 320 7 [some (.ref 100), some (.int i1), some (.int i2), some (.int i3), some (.ref 391), none] [.int v, .int 0, .ref 391] h1 Q
    refine wp_steps (i' := 9) (ls' := [some (.ref 100), some (.int i1), some (.int i2), some (.int i3), some (.ref 391), none]) (st' := []) (h' := mx_wl h1 391 0 v.toInt64) (P := (((mxT 391).1 = 52 ∧ mxG h1) ∧ vp_in 0 (mxT 391).2) ∧ True) 2 rfl rfl ⟨cA sT_391 G1 (vpl rfl), trivial⟩ ?_
    refine wp_J (j := 19) (st' := []) rfl rfl ?_
    refine wp_steps (i' := 20) (ls' := [some (.ref 100), some (.int i1), some (.int i2), some (.int i3), some (.ref 391), none]) (st' := [.int 0]) (h' := mx_wl h1 391 0 (v.toInt64)) (P := True) 1 rfl rfl trivial ?_
    exact wp_end (o := .inl (some (.int 0))) (h' := mx_wl h1 391 0 (v.toInt64)) (P := True) rfl rfl trivial q
  | .inr k, q =>
    obtain ⟨c, hm, q⟩ := q
    simp only [List.mem_cons, Prod.mk.injEq, List.not_mem_nil, or_false] at hm
    rcases hm with ⟨rfl, rfl⟩ | ⟨rfl, rfl⟩ | ⟨rfl, rfl⟩
    · show mx_wp (d + 1) 320 11 [some (.ref 100), some (.int i1), some (.int i2), some (.int i3), some (.ref 391), none] [] h1 Q
      refine wp_steps (i' := 12) (ls' := [some (.ref 100), some (.int i1), some (.int i2), some (.int i3), some (.ref 391), none]) (st' := [.int 1]) (h' := h1) (P := True) 1 rfl rfl trivial ?_
      exact wp_end (o := .inl (some (.int 1))) (h' := h1) (P := True) rfl rfl trivial q
    · show mx_wp (d + 1) 320 14 [some (.ref 100), some (.int i1), some (.int i2), some (.int i3), some (.ref 391), none] [] h1 Q
      refine wp_steps (i' := 15) (ls' := [some (.ref 100), some (.int i1), some (.int i2), some (.int i3), some (.ref 391), none]) (st' := [.int 2]) (h' := h1) (P := True) 1 rfl rfl trivial ?_
      exact wp_end (o := .inl (some (.int 2))) (h' := h1) (P := True) rfl rfl trivial q
    · show mx_wp (d + 1) 320 17 [some (.ref 100), some (.int i1), some (.int i2), some (.int i3), some (.ref 391), none] [] h1 Q
      refine wp_steps (i' := 18) (ls' := [some (.ref 100), some (.int i1), some (.int i2), some (.int i3), some (.ref 391), none]) (st' := [.int 3]) (h' := h1) (P := True) 1 rfl rfl trivial ?_
      exact wp_end (o := .inl (some (.int 3))) (h' := h1) (P := True) rfl rfl trivial q
set_option maxRecDepth 8000 in
theorem wr_321 {d : Nat} {h : mxH} {Q : mxO → mxH → Prop} {i1 : Int32} (G : mxG h) (k : mx_wp d 144 0 (mx_fr 144 [.ref 100, .int i1]) [] h (wq (fun v => v.toInt64) [(2, 1), (4, 2)] Q)) : mx_wp (d + 1) 321 0 (mx_fr 321 [.ref 100, .int i1, .ref 391]) [] h Q := by
  show mx_wp (d + 1) 321 0 [some (.ref 100), some (.int i1), some (.ref 391), none] [] h Q
  refine wp_steps (i' := 4) (ls' := [some (.ref 100), some (.int i1), some (.ref 391), none]) (st' := [.int i1, .ref 100, .int 0, .ref 391]) (h' := h) (P := True) 4 rfl rfl trivial ?_
  refine wp_call (b := false) (y' := 144) (as := [.ref 100, .int i1]) (rest := [.int 0, .ref 391]) (P := ((mxT 100).1 = mxRc 144 ∧ mxG h)) rfl (by with_unfolding_all rfl) ⟨congrArg Prod.fst sT_100, G⟩ (Nat.le_of_ble_eq_true rfl) (mx_wp.mono (fun o h1 q => ?_) k)
  obtain ⟨G1, q⟩ := q
  match o, q with
  | .inl (some (.int v)), q =>
    show mx_wp (d + 1) 321 5 [some (.ref 100), some (.int i1), some (.ref 391), none] [.int v, .int 0, .ref 391] h1 Q
    refine wp_steps (i' := 7) (ls' := [some (.ref 100), some (.int i1), some (.ref 391), none]) (st' := []) (h' := mx_wl h1 391 0 v.toInt64) (P := (((mxT 391).1 = 52 ∧ mxG h1) ∧ vp_in 0 (mxT 391).2) ∧ True) 2 rfl rfl ⟨cA sT_391 G1 (vpl rfl), trivial⟩ ?_
    refine wp_J (j := 14) (st' := []) rfl rfl ?_
    refine wp_steps (i' := 15) (ls' := [some (.ref 100), some (.int i1), some (.ref 391), none]) (st' := [.int 0]) (h' := mx_wl h1 391 0 (v.toInt64)) (P := True) 1 rfl rfl trivial ?_
    exact wp_end (o := .inl (some (.int 0))) (h' := mx_wl h1 391 0 (v.toInt64)) (P := True) rfl rfl trivial q
  | .inr k, q =>
    obtain ⟨c, hm, q⟩ := q
    simp only [List.mem_cons, Prod.mk.injEq, List.not_mem_nil, or_false] at hm
    rcases hm with ⟨rfl, rfl⟩ | ⟨rfl, rfl⟩
    · show mx_wp (d + 1) 321 9 [some (.ref 100), some (.int i1), some (.ref 391), none] [] h1 Q
      refine wp_steps (i' := 10) (ls' := [some (.ref 100), some (.int i1), some (.ref 391), none]) (st' := [.int 1]) (h' := h1) (P := True) 1 rfl rfl trivial ?_
      exact wp_end (o := .inl (some (.int 1))) (h' := h1) (P := True) rfl rfl trivial q
    · show mx_wp (d + 1) 321 12 [some (.ref 100), some (.int i1), some (.ref 391), none] [] h1 Q
      refine wp_steps (i' := 13) (ls' := [some (.ref 100), some (.int i1), some (.ref 391), none]) (st' := [.int 2]) (h' := h1) (P := True) 1 rfl rfl trivial ?_
      exact wp_end (o := .inl (some (.int 2))) (h' := h1) (P := True) rfl rfl trivial q
set_option maxRecDepth 8000 in
theorem wr_322 {d : Nat} {h : mxH} {Q : mxO → mxH → Prop} {i1 : Int32} (G : mxG h) (k : mx_wp d 145 0 (mx_fr 145 [.ref 100, .int i1]) [] h (wq (fun v => v.toInt64) [(2, 1), (4, 2)] Q)) : mx_wp (d + 1) 322 0 (mx_fr 322 [.ref 100, .int i1, .ref 391]) [] h Q := by
  show mx_wp (d + 1) 322 0 [some (.ref 100), some (.int i1), some (.ref 391), none] [] h Q
  refine wp_steps (i' := 4) (ls' := [some (.ref 100), some (.int i1), some (.ref 391), none]) (st' := [.int i1, .ref 100, .int 0, .ref 391]) (h' := h) (P := True) 4 rfl rfl trivial ?_
  refine wp_call (b := false) (y' := 145) (as := [.ref 100, .int i1]) (rest := [.int 0, .ref 391]) (P := ((mxT 100).1 = mxRc 145 ∧ mxG h)) rfl (by with_unfolding_all rfl) ⟨congrArg Prod.fst sT_100, G⟩ (Nat.le_of_ble_eq_true rfl) (mx_wp.mono (fun o h1 q => ?_) k)
  obtain ⟨G1, q⟩ := q
  match o, q with
  | .inl (some (.int v)), q =>
    show mx_wp (d + 1) 322 5 [some (.ref 100), some (.int i1), some (.ref 391), none] [.int v, .int 0, .ref 391] h1 Q
    refine wp_steps (i' := 7) (ls' := [some (.ref 100), some (.int i1), some (.ref 391), none]) (st' := []) (h' := mx_wl h1 391 0 v.toInt64) (P := (((mxT 391).1 = 52 ∧ mxG h1) ∧ vp_in 0 (mxT 391).2) ∧ True) 2 rfl rfl ⟨cA sT_391 G1 (vpl rfl), trivial⟩ ?_
    refine wp_J (j := 14) (st' := []) rfl rfl ?_
    refine wp_steps (i' := 15) (ls' := [some (.ref 100), some (.int i1), some (.ref 391), none]) (st' := [.int 0]) (h' := mx_wl h1 391 0 (v.toInt64)) (P := True) 1 rfl rfl trivial ?_
    exact wp_end (o := .inl (some (.int 0))) (h' := mx_wl h1 391 0 (v.toInt64)) (P := True) rfl rfl trivial q
  | .inr k, q =>
    obtain ⟨c, hm, q⟩ := q
    simp only [List.mem_cons, Prod.mk.injEq, List.not_mem_nil, or_false] at hm
    rcases hm with ⟨rfl, rfl⟩ | ⟨rfl, rfl⟩
    · show mx_wp (d + 1) 322 9 [some (.ref 100), some (.int i1), some (.ref 391), none] [] h1 Q
      refine wp_steps (i' := 10) (ls' := [some (.ref 100), some (.int i1), some (.ref 391), none]) (st' := [.int 1]) (h' := h1) (P := True) 1 rfl rfl trivial ?_
      exact wp_end (o := .inl (some (.int 1))) (h' := h1) (P := True) rfl rfl trivial q
    · show mx_wp (d + 1) 322 12 [some (.ref 100), some (.int i1), some (.ref 391), none] [] h1 Q
      refine wp_steps (i' := 13) (ls' := [some (.ref 100), some (.int i1), some (.ref 391), none]) (st' := [.int 2]) (h' := h1) (P := True) 1 rfl rfl trivial ?_
      exact wp_end (o := .inl (some (.int 2))) (h' := h1) (P := True) rfl rfl trivial q
set_option maxRecDepth 8000 in
theorem wr_323 {d : Nat} {h : mxH} {Q : mxO → mxH → Prop} {i1 : Int32} {i2 : Int32} (G : mxG h) (k : mx_wp d 146 0 (mx_fr 146 [.ref 100, .int i1, .int i2]) [] h (wq (fun v => v.toInt64) [(2, 1), (0, 2), (4, 3)] Q)) : mx_wp (d + 1) 323 0 (mx_fr 323 [.ref 100, .int i1, .int i2, .ref 391]) [] h Q := by
  show mx_wp (d + 1) 323 0 [some (.ref 100), some (.int i1), some (.int i2), some (.ref 391), none] [] h Q
  refine wp_steps (i' := 5) (ls' := [some (.ref 100), some (.int i1), some (.int i2), some (.ref 391), none]) (st' := [.int i2, .int i1, .ref 100, .int 0, .ref 391]) (h' := h) (P := True) 5 rfl rfl trivial ?_
  refine wp_call (b := false) (y' := 146) (as := [.ref 100, .int i1, .int i2]) (rest := [.int 0, .ref 391]) (P := ((mxT 100).1 = mxRc 146 ∧ mxG h)) rfl (by with_unfolding_all rfl) ⟨congrArg Prod.fst sT_100, G⟩ (Nat.le_of_ble_eq_true rfl) (mx_wp.mono (fun o h1 q => ?_) k)
  obtain ⟨G1, q⟩ := q
  match o, q with
  | .inl (some (.int v)), q =>
    show mx_wp (d + 1) 323 6 [some (.ref 100), some (.int i1), some (.int i2), some (.ref 391), none] [.int v, .int 0, .ref 391] h1 Q
    refine wp_steps (i' := 8) (ls' := [some (.ref 100), some (.int i1), some (.int i2), some (.ref 391), none]) (st' := []) (h' := mx_wl h1 391 0 v.toInt64) (P := (((mxT 391).1 = 52 ∧ mxG h1) ∧ vp_in 0 (mxT 391).2) ∧ True) 2 rfl rfl ⟨cA sT_391 G1 (vpl rfl), trivial⟩ ?_
    refine wp_J (j := 18) (st' := []) rfl rfl ?_
    refine wp_steps (i' := 19) (ls' := [some (.ref 100), some (.int i1), some (.int i2), some (.ref 391), none]) (st' := [.int 0]) (h' := mx_wl h1 391 0 (v.toInt64)) (P := True) 1 rfl rfl trivial ?_
    exact wp_end (o := .inl (some (.int 0))) (h' := mx_wl h1 391 0 (v.toInt64)) (P := True) rfl rfl trivial q
  | .inr k, q =>
    obtain ⟨c, hm, q⟩ := q
    simp only [List.mem_cons, Prod.mk.injEq, List.not_mem_nil, or_false] at hm
    rcases hm with ⟨rfl, rfl⟩ | ⟨rfl, rfl⟩ | ⟨rfl, rfl⟩
    · show mx_wp (d + 1) 323 10 [some (.ref 100), some (.int i1), some (.int i2), some (.ref 391), none] [] h1 Q
      refine wp_steps (i' := 11) (ls' := [some (.ref 100), some (.int i1), some (.int i2), some (.ref 391), none]) (st' := [.int 1]) (h' := h1) (P := True) 1 rfl rfl trivial ?_
      exact wp_end (o := .inl (some (.int 1))) (h' := h1) (P := True) rfl rfl trivial q
    · show mx_wp (d + 1) 323 13 [some (.ref 100), some (.int i1), some (.int i2), some (.ref 391), none] [] h1 Q
      refine wp_steps (i' := 14) (ls' := [some (.ref 100), some (.int i1), some (.int i2), some (.ref 391), none]) (st' := [.int 2]) (h' := h1) (P := True) 1 rfl rfl trivial ?_
      exact wp_end (o := .inl (some (.int 2))) (h' := h1) (P := True) rfl rfl trivial q
    · show mx_wp (d + 1) 323 16 [some (.ref 100), some (.int i1), some (.int i2), some (.ref 391), none] [] h1 Q
      refine wp_steps (i' := 17) (ls' := [some (.ref 100), some (.int i1), some (.int i2), some (.ref 391), none]) (st' := [.int 3]) (h' := h1) (P := True) 1 rfl rfl trivial ?_
      exact wp_end (o := .inl (some (.int 3))) (h' := h1) (P := True) rfl rfl trivial q
set_option maxRecDepth 8000 in
theorem wr_324 {d : Nat} {h : mxH} {Q : mxO → mxH → Prop} {i1 : Int32} (G : mxG h) (k : mx_wp d 147 0 (mx_fr 147 [.ref 100, .int i1]) [] h (wq (fun v => v.toInt64) [(2, 1), (4, 2)] Q)) : mx_wp (d + 1) 324 0 (mx_fr 324 [.ref 100, .int i1, .ref 391]) [] h Q := by
  show mx_wp (d + 1) 324 0 [some (.ref 100), some (.int i1), some (.ref 391), none] [] h Q
  refine wp_steps (i' := 4) (ls' := [some (.ref 100), some (.int i1), some (.ref 391), none]) (st' := [.int i1, .ref 100, .int 0, .ref 391]) (h' := h) (P := True) 4 rfl rfl trivial ?_
  refine wp_call (b := false) (y' := 147) (as := [.ref 100, .int i1]) (rest := [.int 0, .ref 391]) (P := ((mxT 100).1 = mxRc 147 ∧ mxG h)) rfl (by with_unfolding_all rfl) ⟨congrArg Prod.fst sT_100, G⟩ (Nat.le_of_ble_eq_true rfl) (mx_wp.mono (fun o h1 q => ?_) k)
  obtain ⟨G1, q⟩ := q
  match o, q with
  | .inl (some (.int v)), q =>
    show mx_wp (d + 1) 324 5 [some (.ref 100), some (.int i1), some (.ref 391), none] [.int v, .int 0, .ref 391] h1 Q
    refine wp_steps (i' := 7) (ls' := [some (.ref 100), some (.int i1), some (.ref 391), none]) (st' := []) (h' := mx_wl h1 391 0 v.toInt64) (P := (((mxT 391).1 = 52 ∧ mxG h1) ∧ vp_in 0 (mxT 391).2) ∧ True) 2 rfl rfl ⟨cA sT_391 G1 (vpl rfl), trivial⟩ ?_
    refine wp_J (j := 14) (st' := []) rfl rfl ?_
    refine wp_steps (i' := 15) (ls' := [some (.ref 100), some (.int i1), some (.ref 391), none]) (st' := [.int 0]) (h' := mx_wl h1 391 0 (v.toInt64)) (P := True) 1 rfl rfl trivial ?_
    exact wp_end (o := .inl (some (.int 0))) (h' := mx_wl h1 391 0 (v.toInt64)) (P := True) rfl rfl trivial q
  | .inr k, q =>
    obtain ⟨c, hm, q⟩ := q
    simp only [List.mem_cons, Prod.mk.injEq, List.not_mem_nil, or_false] at hm
    rcases hm with ⟨rfl, rfl⟩ | ⟨rfl, rfl⟩
    · show mx_wp (d + 1) 324 9 [some (.ref 100), some (.int i1), some (.ref 391), none] [] h1 Q
      refine wp_steps (i' := 10) (ls' := [some (.ref 100), some (.int i1), some (.ref 391), none]) (st' := [.int 1]) (h' := h1) (P := True) 1 rfl rfl trivial ?_
      exact wp_end (o := .inl (some (.int 1))) (h' := h1) (P := True) rfl rfl trivial q
    · show mx_wp (d + 1) 324 12 [some (.ref 100), some (.int i1), some (.ref 391), none] [] h1 Q
      refine wp_steps (i' := 13) (ls' := [some (.ref 100), some (.int i1), some (.ref 391), none]) (st' := [.int 2]) (h' := h1) (P := True) 1 rfl rfl trivial ?_
      exact wp_end (o := .inl (some (.int 2))) (h' := h1) (P := True) rfl rfl trivial q
set_option maxRecDepth 8000 in
theorem wr_325 {d : Nat} {h : mxH} {Q : mxO → mxH → Prop} {i1 : Int32} {i2 : Int32} (G : mxG h) (k : mx_wp d 148 0 (mx_fr 148 [.ref 100, .int i1, .int i2]) [] h (wq (fun v => v.toInt64) [(2, 1), (4, 2)] Q)) : mx_wp (d + 1) 325 0 (mx_fr 325 [.ref 100, .int i1, .int i2, .ref 391]) [] h Q := by
  show mx_wp (d + 1) 325 0 [some (.ref 100), some (.int i1), some (.int i2), some (.ref 391), none] [] h Q
  refine wp_steps (i' := 5) (ls' := [some (.ref 100), some (.int i1), some (.int i2), some (.ref 391), none]) (st' := [.int i2, .int i1, .ref 100, .int 0, .ref 391]) (h' := h) (P := True) 5 rfl rfl trivial ?_
  refine wp_call (b := false) (y' := 148) (as := [.ref 100, .int i1, .int i2]) (rest := [.int 0, .ref 391]) (P := ((mxT 100).1 = mxRc 148 ∧ mxG h)) rfl (by with_unfolding_all rfl) ⟨congrArg Prod.fst sT_100, G⟩ (Nat.le_of_ble_eq_true rfl) (mx_wp.mono (fun o h1 q => ?_) k)
  obtain ⟨G1, q⟩ := q
  match o, q with
  | .inl (some (.int v)), q =>
    show mx_wp (d + 1) 325 6 [some (.ref 100), some (.int i1), some (.int i2), some (.ref 391), none] [.int v, .int 0, .ref 391] h1 Q
    refine wp_steps (i' := 8) (ls' := [some (.ref 100), some (.int i1), some (.int i2), some (.ref 391), none]) (st' := []) (h' := mx_wl h1 391 0 v.toInt64) (P := (((mxT 391).1 = 52 ∧ mxG h1) ∧ vp_in 0 (mxT 391).2) ∧ True) 2 rfl rfl ⟨cA sT_391 G1 (vpl rfl), trivial⟩ ?_
    refine wp_J (j := 15) (st' := []) rfl rfl ?_
    refine wp_steps (i' := 16) (ls' := [some (.ref 100), some (.int i1), some (.int i2), some (.ref 391), none]) (st' := [.int 0]) (h' := mx_wl h1 391 0 (v.toInt64)) (P := True) 1 rfl rfl trivial ?_
    exact wp_end (o := .inl (some (.int 0))) (h' := mx_wl h1 391 0 (v.toInt64)) (P := True) rfl rfl trivial q
  | .inr k, q =>
    obtain ⟨c, hm, q⟩ := q
    simp only [List.mem_cons, Prod.mk.injEq, List.not_mem_nil, or_false] at hm
    rcases hm with ⟨rfl, rfl⟩ | ⟨rfl, rfl⟩
    · show mx_wp (d + 1) 325 10 [some (.ref 100), some (.int i1), some (.int i2), some (.ref 391), none] [] h1 Q
      refine wp_steps (i' := 11) (ls' := [some (.ref 100), some (.int i1), some (.int i2), some (.ref 391), none]) (st' := [.int 1]) (h' := h1) (P := True) 1 rfl rfl trivial ?_
      exact wp_end (o := .inl (some (.int 1))) (h' := h1) (P := True) rfl rfl trivial q
    · show mx_wp (d + 1) 325 13 [some (.ref 100), some (.int i1), some (.int i2), some (.ref 391), none] [] h1 Q
      refine wp_steps (i' := 14) (ls' := [some (.ref 100), some (.int i1), some (.int i2), some (.ref 391), none]) (st' := [.int 2]) (h' := h1) (P := True) 1 rfl rfl trivial ?_
      exact wp_end (o := .inl (some (.int 2))) (h' := h1) (P := True) rfl rfl trivial q
set_option maxRecDepth 8000 in
theorem wr_326 {d : Nat} {h : mxH} {Q : mxO → mxH → Prop} {i1 : Int32} {i2 : Int32} (G : mxG h) (k : mx_wp d 149 0 (mx_fr 149 [.ref 100, .int i1, .int i2]) [] h (wq (fun v => v.toInt64) [(2, 1)] Q)) : mx_wp (d + 1) 326 0 (mx_fr 326 [.ref 100, .int i1, .int i2, .ref 391]) [] h Q := by
  show mx_wp (d + 1) 326 0 [some (.ref 100), some (.int i1), some (.int i2), some (.ref 391), none] [] h Q
  refine wp_steps (i' := 5) (ls' := [some (.ref 100), some (.int i1), some (.int i2), some (.ref 391), none]) (st' := [.int i2, .int i1, .ref 100, .int 0, .ref 391]) (h' := h) (P := True) 5 rfl rfl trivial ?_
  refine wp_call (b := false) (y' := 149) (as := [.ref 100, .int i1, .int i2]) (rest := [.int 0, .ref 391]) (P := ((mxT 100).1 = mxRc 149 ∧ mxG h)) rfl (by with_unfolding_all rfl) ⟨congrArg Prod.fst sT_100, G⟩ (Nat.le_of_ble_eq_true rfl) (mx_wp.mono (fun o h1 q => ?_) k)
  obtain ⟨G1, q⟩ := q
  match o, q with
  | .inl (some (.int v)), q =>
    show mx_wp (d + 1) 326 6 [some (.ref 100), some (.int i1), some (.int i2), some (.ref 391), none] [.int v, .int 0, .ref 391] h1 Q
    refine wp_steps (i' := 8) (ls' := [some (.ref 100), some (.int i1), some (.int i2), some (.ref 391), none]) (st' := []) (h' := mx_wl h1 391 0 v.toInt64) (P := (((mxT 391).1 = 52 ∧ mxG h1) ∧ vp_in 0 (mxT 391).2) ∧ True) 2 rfl rfl ⟨cA sT_391 G1 (vpl rfl), trivial⟩ ?_
    refine wp_J (j := 12) (st' := []) rfl rfl ?_
    refine wp_steps (i' := 13) (ls' := [some (.ref 100), some (.int i1), some (.int i2), some (.ref 391), none]) (st' := [.int 0]) (h' := mx_wl h1 391 0 (v.toInt64)) (P := True) 1 rfl rfl trivial ?_
    exact wp_end (o := .inl (some (.int 0))) (h' := mx_wl h1 391 0 (v.toInt64)) (P := True) rfl rfl trivial q
  | .inr k, q =>
    obtain ⟨c, hm, q⟩ := q
    simp only [List.mem_cons, Prod.mk.injEq, List.not_mem_nil, or_false] at hm
    rcases hm with ⟨rfl, rfl⟩
    · show mx_wp (d + 1) 326 10 [some (.ref 100), some (.int i1), some (.int i2), some (.ref 391), none] [] h1 Q
      refine wp_steps (i' := 11) (ls' := [some (.ref 100), some (.int i1), some (.int i2), some (.ref 391), none]) (st' := [.int 1]) (h' := h1) (P := True) 1 rfl rfl trivial ?_
      exact wp_end (o := .inl (some (.int 1))) (h' := h1) (P := True) rfl rfl trivial q
set_option maxRecDepth 8000 in
theorem wr_327 {d : Nat} {h : mxH} {Q : mxO → mxH → Prop} {i1 : Int32} (G : mxG h) (k : mx_wp d 150 0 (mx_fr 150 [.ref 100, .int i1]) [] h (wq (fun v => v.toInt64) [(2, 1)] Q)) : mx_wp (d + 1) 327 0 (mx_fr 327 [.ref 100, .int i1, .ref 391]) [] h Q := by
  show mx_wp (d + 1) 327 0 [some (.ref 100), some (.int i1), some (.ref 391), none] [] h Q
  refine wp_steps (i' := 4) (ls' := [some (.ref 100), some (.int i1), some (.ref 391), none]) (st' := [.int i1, .ref 100, .int 0, .ref 391]) (h' := h) (P := True) 4 rfl rfl trivial ?_
  refine wp_call (b := false) (y' := 150) (as := [.ref 100, .int i1]) (rest := [.int 0, .ref 391]) (P := ((mxT 100).1 = mxRc 150 ∧ mxG h)) rfl (by with_unfolding_all rfl) ⟨congrArg Prod.fst sT_100, G⟩ (Nat.le_of_ble_eq_true rfl) (mx_wp.mono (fun o h1 q => ?_) k)
  obtain ⟨G1, q⟩ := q
  match o, q with
  | .inl (some (.int v)), q =>
    show mx_wp (d + 1) 327 5 [some (.ref 100), some (.int i1), some (.ref 391), none] [.int v, .int 0, .ref 391] h1 Q
    refine wp_steps (i' := 7) (ls' := [some (.ref 100), some (.int i1), some (.ref 391), none]) (st' := []) (h' := mx_wl h1 391 0 v.toInt64) (P := (((mxT 391).1 = 52 ∧ mxG h1) ∧ vp_in 0 (mxT 391).2) ∧ True) 2 rfl rfl ⟨cA sT_391 G1 (vpl rfl), trivial⟩ ?_
    refine wp_J (j := 11) (st' := []) rfl rfl ?_
    refine wp_steps (i' := 12) (ls' := [some (.ref 100), some (.int i1), some (.ref 391), none]) (st' := [.int 0]) (h' := mx_wl h1 391 0 (v.toInt64)) (P := True) 1 rfl rfl trivial ?_
    exact wp_end (o := .inl (some (.int 0))) (h' := mx_wl h1 391 0 (v.toInt64)) (P := True) rfl rfl trivial q
  | .inr k, q =>
    obtain ⟨c, hm, q⟩ := q
    simp only [List.mem_cons, Prod.mk.injEq, List.not_mem_nil, or_false] at hm
    rcases hm with ⟨rfl, rfl⟩
    · show mx_wp (d + 1) 327 9 [some (.ref 100), some (.int i1), some (.ref 391), none] [] h1 Q
      refine wp_steps (i' := 10) (ls' := [some (.ref 100), some (.int i1), some (.ref 391), none]) (st' := [.int 1]) (h' := h1) (P := True) 1 rfl rfl trivial ?_
      exact wp_end (o := .inl (some (.int 1))) (h' := h1) (P := True) rfl rfl trivial q
set_option maxRecDepth 8000 in
theorem wr_328 {d : Nat} {h : mxH} {Q : mxO → mxH → Prop} {i1 : Int32} (G : mxG h) (k : mx_wp d 151 0 (mx_fr 151 [.ref 100, .int i1]) [] h (wq (fun v => v.toInt64) [(0, 1)] Q)) : mx_wp (d + 1) 328 0 (mx_fr 328 [.ref 100, .int i1, .ref 391]) [] h Q := by
  show mx_wp (d + 1) 328 0 [some (.ref 100), some (.int i1), some (.ref 391), none] [] h Q
  refine wp_steps (i' := 4) (ls' := [some (.ref 100), some (.int i1), some (.ref 391), none]) (st' := [.int i1, .ref 100, .int 0, .ref 391]) (h' := h) (P := True) 4 rfl rfl trivial ?_
  refine wp_call (b := false) (y' := 151) (as := [.ref 100, .int i1]) (rest := [.int 0, .ref 391]) (P := ((mxT 100).1 = mxRc 151 ∧ mxG h)) rfl (by with_unfolding_all rfl) ⟨congrArg Prod.fst sT_100, G⟩ (Nat.le_of_ble_eq_true rfl) (mx_wp.mono (fun o h1 q => ?_) k)
  obtain ⟨G1, q⟩ := q
  match o, q with
  | .inl (some (.int v)), q =>
    show mx_wp (d + 1) 328 5 [some (.ref 100), some (.int i1), some (.ref 391), none] [.int v, .int 0, .ref 391] h1 Q
    refine wp_steps (i' := 7) (ls' := [some (.ref 100), some (.int i1), some (.ref 391), none]) (st' := []) (h' := mx_wl h1 391 0 v.toInt64) (P := (((mxT 391).1 = 52 ∧ mxG h1) ∧ vp_in 0 (mxT 391).2) ∧ True) 2 rfl rfl ⟨cA sT_391 G1 (vpl rfl), trivial⟩ ?_
    refine wp_J (j := 11) (st' := []) rfl rfl ?_
    refine wp_steps (i' := 12) (ls' := [some (.ref 100), some (.int i1), some (.ref 391), none]) (st' := [.int 0]) (h' := mx_wl h1 391 0 (v.toInt64)) (P := True) 1 rfl rfl trivial ?_
    exact wp_end (o := .inl (some (.int 0))) (h' := mx_wl h1 391 0 (v.toInt64)) (P := True) rfl rfl trivial q
  | .inr k, q =>
    obtain ⟨c, hm, q⟩ := q
    simp only [List.mem_cons, Prod.mk.injEq, List.not_mem_nil, or_false] at hm
    rcases hm with ⟨rfl, rfl⟩
    · show mx_wp (d + 1) 328 9 [some (.ref 100), some (.int i1), some (.ref 391), none] [] h1 Q
      refine wp_steps (i' := 10) (ls' := [some (.ref 100), some (.int i1), some (.ref 391), none]) (st' := [.int 1]) (h' := h1) (P := True) 1 rfl rfl trivial ?_
      exact wp_end (o := .inl (some (.int 1))) (h' := h1) (P := True) rfl rfl trivial q
set_option maxRecDepth 8000 in
theorem wr_329 {d : Nat} {h : mxH} {Q : mxO → mxH → Prop} {i1 : Int32} {i2 : Int32} (G : mxG h) (k : mx_wp d 153 0 (mx_fr 153 [.ref 100, .int i1, .int i2]) [] h (wq (fun v => v.toInt64) [(2, 1)] Q)) : mx_wp (d + 1) 329 0 (mx_fr 329 [.ref 100, .int i1, .int i2, .ref 391]) [] h Q := by
  show mx_wp (d + 1) 329 0 [some (.ref 100), some (.int i1), some (.int i2), some (.ref 391), none] [] h Q
  refine wp_steps (i' := 5) (ls' := [some (.ref 100), some (.int i1), some (.int i2), some (.ref 391), none]) (st' := [.int i2, .int i1, .ref 100, .int 0, .ref 391]) (h' := h) (P := True) 5 rfl rfl trivial ?_
  refine wp_call (b := false) (y' := 153) (as := [.ref 100, .int i1, .int i2]) (rest := [.int 0, .ref 391]) (P := ((mxT 100).1 = mxRc 153 ∧ mxG h)) rfl (by with_unfolding_all rfl) ⟨congrArg Prod.fst sT_100, G⟩ (Nat.le_of_ble_eq_true rfl) (mx_wp.mono (fun o h1 q => ?_) k)
  obtain ⟨G1, q⟩ := q
  match o, q with
  | .inl (some (.int v)), q =>
    show mx_wp (d + 1) 329 6 [some (.ref 100), some (.int i1), some (.int i2), some (.ref 391), none] [.int v, .int 0, .ref 391] h1 Q
    refine wp_steps (i' := 8) (ls' := [some (.ref 100), some (.int i1), some (.int i2), some (.ref 391), none]) (st' := []) (h' := mx_wl h1 391 0 v.toInt64) (P := (((mxT 391).1 = 52 ∧ mxG h1) ∧ vp_in 0 (mxT 391).2) ∧ True) 2 rfl rfl ⟨cA sT_391 G1 (vpl rfl), trivial⟩ ?_
    refine wp_J (j := 12) (st' := []) rfl rfl ?_
    refine wp_steps (i' := 13) (ls' := [some (.ref 100), some (.int i1), some (.int i2), some (.ref 391), none]) (st' := [.int 0]) (h' := mx_wl h1 391 0 (v.toInt64)) (P := True) 1 rfl rfl trivial ?_
    exact wp_end (o := .inl (some (.int 0))) (h' := mx_wl h1 391 0 (v.toInt64)) (P := True) rfl rfl trivial q
  | .inr k, q =>
    obtain ⟨c, hm, q⟩ := q
    simp only [List.mem_cons, Prod.mk.injEq, List.not_mem_nil, or_false] at hm
    rcases hm with ⟨rfl, rfl⟩
    · show mx_wp (d + 1) 329 10 [some (.ref 100), some (.int i1), some (.int i2), some (.ref 391), none] [] h1 Q
      refine wp_steps (i' := 11) (ls' := [some (.ref 100), some (.int i1), some (.int i2), some (.ref 391), none]) (st' := [.int 1]) (h' := h1) (P := True) 1 rfl rfl trivial ?_
      exact wp_end (o := .inl (some (.int 1))) (h' := h1) (P := True) rfl rfl trivial q
set_option maxRecDepth 8000 in
theorem wr_330 {d : Nat} {h : mxH} {Q : mxO → mxH → Prop} {i1 : Int32} (G : mxG h) (k : mx_wp d 154 0 (mx_fr 154 [.ref 100, .int i1]) [] h (wq (fun v => v.toInt64) [(2, 1)] Q)) : mx_wp (d + 1) 330 0 (mx_fr 330 [.ref 100, .int i1, .ref 391]) [] h Q := by
  show mx_wp (d + 1) 330 0 [some (.ref 100), some (.int i1), some (.ref 391), none] [] h Q
  refine wp_steps (i' := 4) (ls' := [some (.ref 100), some (.int i1), some (.ref 391), none]) (st' := [.int i1, .ref 100, .int 0, .ref 391]) (h' := h) (P := True) 4 rfl rfl trivial ?_
  refine wp_call (b := false) (y' := 154) (as := [.ref 100, .int i1]) (rest := [.int 0, .ref 391]) (P := ((mxT 100).1 = mxRc 154 ∧ mxG h)) rfl (by with_unfolding_all rfl) ⟨congrArg Prod.fst sT_100, G⟩ (Nat.le_of_ble_eq_true rfl) (mx_wp.mono (fun o h1 q => ?_) k)
  obtain ⟨G1, q⟩ := q
  match o, q with
  | .inl (some (.int v)), q =>
    show mx_wp (d + 1) 330 5 [some (.ref 100), some (.int i1), some (.ref 391), none] [.int v, .int 0, .ref 391] h1 Q
    refine wp_steps (i' := 7) (ls' := [some (.ref 100), some (.int i1), some (.ref 391), none]) (st' := []) (h' := mx_wl h1 391 0 v.toInt64) (P := (((mxT 391).1 = 52 ∧ mxG h1) ∧ vp_in 0 (mxT 391).2) ∧ True) 2 rfl rfl ⟨cA sT_391 G1 (vpl rfl), trivial⟩ ?_
    refine wp_J (j := 11) (st' := []) rfl rfl ?_
    refine wp_steps (i' := 12) (ls' := [some (.ref 100), some (.int i1), some (.ref 391), none]) (st' := [.int 0]) (h' := mx_wl h1 391 0 (v.toInt64)) (P := True) 1 rfl rfl trivial ?_
    exact wp_end (o := .inl (some (.int 0))) (h' := mx_wl h1 391 0 (v.toInt64)) (P := True) rfl rfl trivial q
  | .inr k, q =>
    obtain ⟨c, hm, q⟩ := q
    simp only [List.mem_cons, Prod.mk.injEq, List.not_mem_nil, or_false] at hm
    rcases hm with ⟨rfl, rfl⟩
    · show mx_wp (d + 1) 330 9 [some (.ref 100), some (.int i1), some (.ref 391), none] [] h1 Q
      refine wp_steps (i' := 10) (ls' := [some (.ref 100), some (.int i1), some (.ref 391), none]) (st' := [.int 1]) (h' := h1) (P := True) 1 rfl rfl trivial ?_
      exact wp_end (o := .inl (some (.int 1))) (h' := h1) (P := True) rfl rfl trivial q
set_option maxRecDepth 8000 in
theorem wr_331 {d : Nat} {h : mxH} {Q : mxO → mxH → Prop} {i1 : Int32} (G : mxG h) (k : mx_wp d 155 0 (mx_fr 155 [.ref 100, .int i1]) [] h (wq (fun v => if v = 0 then Int64.ofNat 0 else Int64.ofNat 1) [(2, 1)] Q)) : mx_wp (d + 1) 331 0 (mx_fr 331 [.ref 100, .int i1, .ref 391]) [] h Q := by
  show mx_wp (d + 1) 331 0 [some (.ref 100), some (.int i1), some (.ref 391), none] [] h Q
  refine wp_steps (i' := 4) (ls' := [some (.ref 100), some (.int i1), some (.ref 391), none]) (st' := [.int i1, .ref 100, .int 0, .ref 391]) (h' := h) (P := True) 4 rfl rfl trivial ?_
  refine wp_call (b := false) (y' := 155) (as := [.ref 100, .int i1]) (rest := [.int 0, .ref 391]) (P := ((mxT 100).1 = mxRc 155 ∧ mxG h)) rfl (by with_unfolding_all rfl) ⟨congrArg Prod.fst sT_100, G⟩ (Nat.le_of_ble_eq_true rfl) (mx_wp.mono (fun o h1 q => ?_) k)
  obtain ⟨G1, q⟩ := q
  match o, q with
  | .inl (some (.int v)), q =>
    show mx_wp (d + 1) 331 5 [some (.ref 100), some (.int i1), some (.ref 391), none] [.int v, .int 0, .ref 391] h1 Q
    refine wp_br (P := True) (c := v = 0) (t := 8) (st' := [.int 0, .ref 391]) rfl rfl trivial (fun c => ?_) (fun c => ?_)
    · simp only [if_pos c] at q
      refine wp_steps (i' := 10) (ls' := [some (.ref 100), some (.int i1), some (.ref 391), none]) (st' := []) (h' := mx_wl h1 391 0 (Int64.ofNat 0)) (P := (((mxT 391).1 = 52 ∧ mxG h1) ∧ vp_in 0 (mxT 391).2) ∧ True) 2 rfl rfl ⟨cA sT_391 G1 (vpl rfl), trivial⟩ ?_
      refine wp_J (j := 14) (st' := []) rfl rfl ?_
      refine wp_steps (i' := 15) (ls' := [some (.ref 100), some (.int i1), some (.ref 391), none]) (st' := [.int 0]) (h' := mx_wl h1 391 0 (Int64.ofNat 0)) (P := True) 1 rfl rfl trivial ?_
      exact wp_end (o := .inl (some (.int 0))) (h' := mx_wl h1 391 0 (Int64.ofNat 0)) (P := True) rfl rfl trivial q
    · simp only [if_neg c] at q
      refine wp_steps (i' := 7) (ls' := [some (.ref 100), some (.int i1), some (.ref 391), none]) (st' := [.long (Int64.ofNat 1), .int 0, .ref 391]) (h' := h1) (P := True) 1 rfl rfl trivial ?_
      refine wp_J (j := 9) (st' := [.long (Int64.ofNat 1), .int 0, .ref 391]) rfl rfl ?_
      refine wp_steps (i' := 10) (ls' := [some (.ref 100), some (.int i1), some (.ref 391), none]) (st' := []) (h' := mx_wl h1 391 0 (Int64.ofNat 1)) (P := (((mxT 391).1 = 52 ∧ mxG h1) ∧ vp_in 0 (mxT 391).2) ∧ True) 1 rfl rfl ⟨cA sT_391 G1 (vpl rfl), trivial⟩ ?_
      refine wp_J (j := 14) (st' := []) rfl rfl ?_
      refine wp_steps (i' := 15) (ls' := [some (.ref 100), some (.int i1), some (.ref 391), none]) (st' := [.int 0]) (h' := mx_wl h1 391 0 (Int64.ofNat 1)) (P := True) 1 rfl rfl trivial ?_
      exact wp_end (o := .inl (some (.int 0))) (h' := mx_wl h1 391 0 (Int64.ofNat 1)) (P := True) rfl rfl trivial q
  | .inr k, q =>
    obtain ⟨c, hm, q⟩ := q
    simp only [List.mem_cons, Prod.mk.injEq, List.not_mem_nil, or_false] at hm
    rcases hm with ⟨rfl, rfl⟩
    · show mx_wp (d + 1) 331 12 [some (.ref 100), some (.int i1), some (.ref 391), none] [] h1 Q
      refine wp_steps (i' := 13) (ls' := [some (.ref 100), some (.int i1), some (.ref 391), none]) (st' := [.int 1]) (h' := h1) (P := True) 1 rfl rfl trivial ?_
      exact wp_end (o := .inl (some (.int 1))) (h' := h1) (P := True) rfl rfl trivial q
set_option maxRecDepth 8000 in
theorem wr_332 {d : Nat} {h : mxH} {Q : mxO → mxH → Prop} {i1 : Int32} (G : mxG h) (k : mx_wp d 156 0 (mx_fr 156 [.ref 100, .int i1]) [] h (wq (fun v => v.toInt64) [(2, 1)] Q)) : mx_wp (d + 1) 332 0 (mx_fr 332 [.ref 100, .int i1, .ref 391]) [] h Q := by
  show mx_wp (d + 1) 332 0 [some (.ref 100), some (.int i1), some (.ref 391), none] [] h Q
  refine wp_steps (i' := 4) (ls' := [some (.ref 100), some (.int i1), some (.ref 391), none]) (st' := [.int i1, .ref 100, .int 0, .ref 391]) (h' := h) (P := True) 4 rfl rfl trivial ?_
  refine wp_call (b := false) (y' := 156) (as := [.ref 100, .int i1]) (rest := [.int 0, .ref 391]) (P := ((mxT 100).1 = mxRc 156 ∧ mxG h)) rfl (by with_unfolding_all rfl) ⟨congrArg Prod.fst sT_100, G⟩ (Nat.le_of_ble_eq_true rfl) (mx_wp.mono (fun o h1 q => ?_) k)
  obtain ⟨G1, q⟩ := q
  match o, q with
  | .inl (some (.int v)), q =>
    show mx_wp (d + 1) 332 5 [some (.ref 100), some (.int i1), some (.ref 391), none] [.int v, .int 0, .ref 391] h1 Q
    refine wp_steps (i' := 7) (ls' := [some (.ref 100), some (.int i1), some (.ref 391), none]) (st' := []) (h' := mx_wl h1 391 0 v.toInt64) (P := (((mxT 391).1 = 52 ∧ mxG h1) ∧ vp_in 0 (mxT 391).2) ∧ True) 2 rfl rfl ⟨cA sT_391 G1 (vpl rfl), trivial⟩ ?_
    refine wp_J (j := 11) (st' := []) rfl rfl ?_
    refine wp_steps (i' := 12) (ls' := [some (.ref 100), some (.int i1), some (.ref 391), none]) (st' := [.int 0]) (h' := mx_wl h1 391 0 (v.toInt64)) (P := True) 1 rfl rfl trivial ?_
    exact wp_end (o := .inl (some (.int 0))) (h' := mx_wl h1 391 0 (v.toInt64)) (P := True) rfl rfl trivial q
  | .inr k, q =>
    obtain ⟨c, hm, q⟩ := q
    simp only [List.mem_cons, Prod.mk.injEq, List.not_mem_nil, or_false] at hm
    rcases hm with ⟨rfl, rfl⟩
    · show mx_wp (d + 1) 332 9 [some (.ref 100), some (.int i1), some (.ref 391), none] [] h1 Q
      refine wp_steps (i' := 10) (ls' := [some (.ref 100), some (.int i1), some (.ref 391), none]) (st' := [.int 1]) (h' := h1) (P := True) 1 rfl rfl trivial ?_
      exact wp_end (o := .inl (some (.int 1))) (h' := h1) (P := True) rfl rfl trivial q
set_option maxRecDepth 8000 in
theorem wr_333 {d : Nat} {h : mxH} {Q : mxO → mxH → Prop} {i1 : Int32} {i2 : Int32} (G : mxG h) (k : mx_wp d 157 0 (mx_fr 157 [.ref 100, .int i1, .int i2]) [] h (wq (fun v => v.toInt64) [(2, 1)] Q)) : mx_wp (d + 1) 333 0 (mx_fr 333 [.ref 100, .int i1, .int i2, .ref 391]) [] h Q := by
  show mx_wp (d + 1) 333 0 [some (.ref 100), some (.int i1), some (.int i2), some (.ref 391), none] [] h Q
  refine wp_steps (i' := 5) (ls' := [some (.ref 100), some (.int i1), some (.int i2), some (.ref 391), none]) (st' := [.int i2, .int i1, .ref 100, .int 0, .ref 391]) (h' := h) (P := True) 5 rfl rfl trivial ?_
  refine wp_call (b := false) (y' := 157) (as := [.ref 100, .int i1, .int i2]) (rest := [.int 0, .ref 391]) (P := ((mxT 100).1 = mxRc 157 ∧ mxG h)) rfl (by with_unfolding_all rfl) ⟨congrArg Prod.fst sT_100, G⟩ (Nat.le_of_ble_eq_true rfl) (mx_wp.mono (fun o h1 q => ?_) k)
  obtain ⟨G1, q⟩ := q
  match o, q with
  | .inl (some (.int v)), q =>
    show mx_wp (d + 1) 333 6 [some (.ref 100), some (.int i1), some (.int i2), some (.ref 391), none] [.int v, .int 0, .ref 391] h1 Q
    refine wp_steps (i' := 8) (ls' := [some (.ref 100), some (.int i1), some (.int i2), some (.ref 391), none]) (st' := []) (h' := mx_wl h1 391 0 v.toInt64) (P := (((mxT 391).1 = 52 ∧ mxG h1) ∧ vp_in 0 (mxT 391).2) ∧ True) 2 rfl rfl ⟨cA sT_391 G1 (vpl rfl), trivial⟩ ?_
    refine wp_J (j := 12) (st' := []) rfl rfl ?_
    refine wp_steps (i' := 13) (ls' := [some (.ref 100), some (.int i1), some (.int i2), some (.ref 391), none]) (st' := [.int 0]) (h' := mx_wl h1 391 0 (v.toInt64)) (P := True) 1 rfl rfl trivial ?_
    exact wp_end (o := .inl (some (.int 0))) (h' := mx_wl h1 391 0 (v.toInt64)) (P := True) rfl rfl trivial q
  | .inr k, q =>
    obtain ⟨c, hm, q⟩ := q
    simp only [List.mem_cons, Prod.mk.injEq, List.not_mem_nil, or_false] at hm
    rcases hm with ⟨rfl, rfl⟩
    · show mx_wp (d + 1) 333 10 [some (.ref 100), some (.int i1), some (.int i2), some (.ref 391), none] [] h1 Q
      refine wp_steps (i' := 11) (ls' := [some (.ref 100), some (.int i1), some (.int i2), some (.ref 391), none]) (st' := [.int 1]) (h' := h1) (P := True) 1 rfl rfl trivial ?_
      exact wp_end (o := .inl (some (.int 1))) (h' := h1) (P := True) rfl rfl trivial q
set_option maxRecDepth 8000 in
theorem wr_334 {d : Nat} {h : mxH} {Q : mxO → mxH → Prop} {i1 : Int32} {i2 : Int32} (G : mxG h) (k : mx_wp d 163 0 (mx_fr 163 [.ref 100, .int i1, .int i2]) [] h (wq (fun v => v.toInt64) [(2, 1)] Q)) : mx_wp (d + 1) 334 0 (mx_fr 334 [.ref 100, .int i1, .int i2, .ref 391]) [] h Q := by
  show mx_wp (d + 1) 334 0 [some (.ref 100), some (.int i1), some (.int i2), some (.ref 391), none] [] h Q
  refine wp_steps (i' := 5) (ls' := [some (.ref 100), some (.int i1), some (.int i2), some (.ref 391), none]) (st' := [.int i2, .int i1, .ref 100, .int 0, .ref 391]) (h' := h) (P := True) 5 rfl rfl trivial ?_
  refine wp_call (b := false) (y' := 163) (as := [.ref 100, .int i1, .int i2]) (rest := [.int 0, .ref 391]) (P := ((mxT 100).1 = mxRc 163 ∧ mxG h)) rfl (by with_unfolding_all rfl) ⟨congrArg Prod.fst sT_100, G⟩ (Nat.le_of_ble_eq_true rfl) (mx_wp.mono (fun o h1 q => ?_) k)
  obtain ⟨G1, q⟩ := q
  match o, q with
  | .inl (some (.int v)), q =>
    show mx_wp (d + 1) 334 6 [some (.ref 100), some (.int i1), some (.int i2), some (.ref 391), none] [.int v, .int 0, .ref 391] h1 Q
    refine wp_steps (i' := 8) (ls' := [some (.ref 100), some (.int i1), some (.int i2), some (.ref 391), none]) (st' := []) (h' := mx_wl h1 391 0 v.toInt64) (P := (((mxT 391).1 = 52 ∧ mxG h1) ∧ vp_in 0 (mxT 391).2) ∧ True) 2 rfl rfl ⟨cA sT_391 G1 (vpl rfl), trivial⟩ ?_
    refine wp_J (j := 12) (st' := []) rfl rfl ?_
    refine wp_steps (i' := 13) (ls' := [some (.ref 100), some (.int i1), some (.int i2), some (.ref 391), none]) (st' := [.int 0]) (h' := mx_wl h1 391 0 (v.toInt64)) (P := True) 1 rfl rfl trivial ?_
    exact wp_end (o := .inl (some (.int 0))) (h' := mx_wl h1 391 0 (v.toInt64)) (P := True) rfl rfl trivial q
  | .inr k, q =>
    obtain ⟨c, hm, q⟩ := q
    simp only [List.mem_cons, Prod.mk.injEq, List.not_mem_nil, or_false] at hm
    rcases hm with ⟨rfl, rfl⟩
    · show mx_wp (d + 1) 334 10 [some (.ref 100), some (.int i1), some (.int i2), some (.ref 391), none] [] h1 Q
      refine wp_steps (i' := 11) (ls' := [some (.ref 100), some (.int i1), some (.int i2), some (.ref 391), none]) (st' := [.int 1]) (h' := h1) (P := True) 1 rfl rfl trivial ?_
      exact wp_end (o := .inl (some (.int 1))) (h' := h1) (P := True) rfl rfl trivial q
set_option maxRecDepth 8000 in
theorem wr_335 {d : Nat} {h : mxH} {Q : mxO → mxH → Prop} {i1 : Int32} (G : mxG h) (k : mx_wp d 169 0 (mx_fr 169 [.ref 100, .int i1]) [] h (wq (fun v => v.toInt64) [(2, 1)] Q)) : mx_wp (d + 1) 335 0 (mx_fr 335 [.ref 100, .int i1, .ref 391]) [] h Q := by
  show mx_wp (d + 1) 335 0 [some (.ref 100), some (.int i1), some (.ref 391), none] [] h Q
  refine wp_steps (i' := 4) (ls' := [some (.ref 100), some (.int i1), some (.ref 391), none]) (st' := [.int i1, .ref 100, .int 0, .ref 391]) (h' := h) (P := True) 4 rfl rfl trivial ?_
  refine wp_call (b := false) (y' := 169) (as := [.ref 100, .int i1]) (rest := [.int 0, .ref 391]) (P := ((mxT 100).1 = mxRc 169 ∧ mxG h)) rfl (by with_unfolding_all rfl) ⟨congrArg Prod.fst sT_100, G⟩ (Nat.le_of_ble_eq_true rfl) (mx_wp.mono (fun o h1 q => ?_) k)
  obtain ⟨G1, q⟩ := q
  match o, q with
  | .inl (some (.int v)), q =>
    show mx_wp (d + 1) 335 5 [some (.ref 100), some (.int i1), some (.ref 391), none] [.int v, .int 0, .ref 391] h1 Q
    refine wp_steps (i' := 7) (ls' := [some (.ref 100), some (.int i1), some (.ref 391), none]) (st' := []) (h' := mx_wl h1 391 0 v.toInt64) (P := (((mxT 391).1 = 52 ∧ mxG h1) ∧ vp_in 0 (mxT 391).2) ∧ True) 2 rfl rfl ⟨cA sT_391 G1 (vpl rfl), trivial⟩ ?_
    refine wp_J (j := 11) (st' := []) rfl rfl ?_
    refine wp_steps (i' := 12) (ls' := [some (.ref 100), some (.int i1), some (.ref 391), none]) (st' := [.int 0]) (h' := mx_wl h1 391 0 (v.toInt64)) (P := True) 1 rfl rfl trivial ?_
    exact wp_end (o := .inl (some (.int 0))) (h' := mx_wl h1 391 0 (v.toInt64)) (P := True) rfl rfl trivial q
  | .inr k, q =>
    obtain ⟨c, hm, q⟩ := q
    simp only [List.mem_cons, Prod.mk.injEq, List.not_mem_nil, or_false] at hm
    rcases hm with ⟨rfl, rfl⟩
    · show mx_wp (d + 1) 335 9 [some (.ref 100), some (.int i1), some (.ref 391), none] [] h1 Q
      refine wp_steps (i' := 10) (ls' := [some (.ref 100), some (.int i1), some (.ref 391), none]) (st' := [.int 1]) (h' := h1) (P := True) 1 rfl rfl trivial ?_
      exact wp_end (o := .inl (some (.int 1))) (h' := h1) (P := True) rfl rfl trivial q
set_option maxRecDepth 8000 in
theorem wr_336 {d : Nat} {h : mxH} {Q : mxO → mxH → Prop} {i1 : Int32} {i2 : Int32} (G : mxG h) (k : mx_wp d 164 0 (mx_fr 164 [.ref 100, .int i1, .int i2]) [] h (wq (fun v => if v = 0 then Int64.ofNat 0 else Int64.ofNat 1) [(2, 1), (0, 2)] Q)) : mx_wp (d + 1) 336 0 (mx_fr 336 [.ref 100, .int i1, .int i2, .ref 391]) [] h Q := by
  show mx_wp (d + 1) 336 0 [some (.ref 100), some (.int i1), some (.int i2), some (.ref 391), none] [] h Q
  refine wp_steps (i' := 5) (ls' := [some (.ref 100), some (.int i1), some (.int i2), some (.ref 391), none]) (st' := [.int i2, .int i1, .ref 100, .int 0, .ref 391]) (h' := h) (P := True) 5 rfl rfl trivial ?_
  refine wp_call (b := false) (y' := 164) (as := [.ref 100, .int i1, .int i2]) (rest := [.int 0, .ref 391]) (P := ((mxT 100).1 = mxRc 164 ∧ mxG h)) rfl (by with_unfolding_all rfl) ⟨congrArg Prod.fst sT_100, G⟩ (Nat.le_of_ble_eq_true rfl) (mx_wp.mono (fun o h1 q => ?_) k)
  obtain ⟨G1, q⟩ := q
  match o, q with
  | .inl (some (.int v)), q =>
    show mx_wp (d + 1) 336 6 [some (.ref 100), some (.int i1), some (.int i2), some (.ref 391), none] [.int v, .int 0, .ref 391] h1 Q
    refine wp_br (P := True) (c := v = 0) (t := 9) (st' := [.int 0, .ref 391]) rfl rfl trivial (fun c => ?_) (fun c => ?_)
    · simp only [if_pos c] at q
      refine wp_steps (i' := 11) (ls' := [some (.ref 100), some (.int i1), some (.int i2), some (.ref 391), none]) (st' := []) (h' := mx_wl h1 391 0 (Int64.ofNat 0)) (P := (((mxT 391).1 = 52 ∧ mxG h1) ∧ vp_in 0 (mxT 391).2) ∧ True) 2 rfl rfl ⟨cA sT_391 G1 (vpl rfl), trivial⟩ ?_
      refine wp_J (j := 18) (st' := []) rfl rfl ?_
      refine wp_steps (i' := 19) (ls' := [some (.ref 100), some (.int i1), some (.int i2), some (.ref 391), none]) (st' := [.int 0]) (h' := mx_wl h1 391 0 (Int64.ofNat 0)) (P := True) 1 rfl rfl trivial ?_
      exact wp_end (o := .inl (some (.int 0))) (h' := mx_wl h1 391 0 (Int64.ofNat 0)) (P := True) rfl rfl trivial q
    · simp only [if_neg c] at q
      refine wp_steps (i' := 8) (ls' := [some (.ref 100), some (.int i1), some (.int i2), some (.ref 391), none]) (st' := [.long (Int64.ofNat 1), .int 0, .ref 391]) (h' := h1) (P := True) 1 rfl rfl trivial ?_
      refine wp_J (j := 10) (st' := [.long (Int64.ofNat 1), .int 0, .ref 391]) rfl rfl ?_
      refine wp_steps (i' := 11) (ls' := [some (.ref 100), some (.int i1), some (.int i2), some (.ref 391), none]) (st' := []) (h' := mx_wl h1 391 0 (Int64.ofNat 1)) (P := (((mxT 391).1 = 52 ∧ mxG h1) ∧ vp_in 0 (mxT 391).2) ∧ True) 1 rfl rfl ⟨cA sT_391 G1 (vpl rfl), trivial⟩ ?_
      refine wp_J (j := 18) (st' := []) rfl rfl ?_
      refine wp_steps (i' := 19) (ls' := [some (.ref 100), some (.int i1), some (.int i2), some (.ref 391), none]) (st' := [.int 0]) (h' := mx_wl h1 391 0 (Int64.ofNat 1)) (P := True) 1 rfl rfl trivial ?_
      exact wp_end (o := .inl (some (.int 0))) (h' := mx_wl h1 391 0 (Int64.ofNat 1)) (P := True) rfl rfl trivial q
  | .inr k, q =>
    obtain ⟨c, hm, q⟩ := q
    simp only [List.mem_cons, Prod.mk.injEq, List.not_mem_nil, or_false] at hm
    rcases hm with ⟨rfl, rfl⟩ | ⟨rfl, rfl⟩
    · show mx_wp (d + 1) 336 13 [some (.ref 100), some (.int i1), some (.int i2), some (.ref 391), none] [] h1 Q
      refine wp_steps (i' := 14) (ls' := [some (.ref 100), some (.int i1), some (.int i2), some (.ref 391), none]) (st' := [.int 1]) (h' := h1) (P := True) 1 rfl rfl trivial ?_
      exact wp_end (o := .inl (some (.int 1))) (h' := h1) (P := True) rfl rfl trivial q
    · show mx_wp (d + 1) 336 16 [some (.ref 100), some (.int i1), some (.int i2), some (.ref 391), none] [] h1 Q
      refine wp_steps (i' := 17) (ls' := [some (.ref 100), some (.int i1), some (.int i2), some (.ref 391), none]) (st' := [.int 2]) (h' := h1) (P := True) 1 rfl rfl trivial ?_
      exact wp_end (o := .inl (some (.int 2))) (h' := h1) (P := True) rfl rfl trivial q
set_option maxRecDepth 8000 in
theorem wr_337 {d : Nat} {h : mxH} {Q : mxO → mxH → Prop} {i1 : Int32} {i2 : Int32} {i3 : Int32} (G : mxG h) (k : mx_wp d 165 0 (mx_fr 165 [.ref 100, .int i1, .int i2, .int i3]) [] h (wq (fun v => v.toInt64) [(2, 1), (0, 2)] Q)) : mx_wp (d + 1) 337 0 (mx_fr 337 [.ref 100, .int i1, .int i2, .int i3, .ref 391]) [] h Q := by
  show mx_wp (d + 1) 337 0 [some (.ref 100), some (.int i1), some (.int i2), some (.int i3), some (.ref 391), none] [] h Q
  refine wp_steps (i' := 6) (ls' := [some (.ref 100), some (.int i1), some (.int i2), some (.int i3), some (.ref 391), none]) (st' := [.int i3, .int i2, .int i1, .ref 100, .int 0, .ref 391]) (h' := h) (P := True) 6 rfl rfl trivial ?_
  refine wp_call (b := false) (y' := 165) (as := [.ref 100, .int i1, .int i2, .int i3]) (rest := [.int 0, .ref 391]) (P := ((mxT 100).1 = mxRc 165 ∧ mxG h)) rfl (by with_unfolding_all rfl) ⟨congrArg Prod.fst sT_100, G⟩ (Nat.le_of_ble_eq_true rfl) (mx_wp.mono (fun o h1 q => ?_) k)
  obtain ⟨G1, q⟩ := q
  match o, q with
  | .inl (some (.int v)), q =>
    show mx_wp (d + 1) 337 7 [some (.ref 100), some (.int i1), some (.int i2), some (.int i3), some (.ref 391), none] [.int v, .int 0, .ref 391] h1 Q
    refine wp_steps (i' := 9) (ls' := [some (.ref 100), some (.int i1), some (.int i2), some (.int i3), some (.ref 391), none]) (st' := []) (h' := mx_wl h1 391 0 v.toInt64) (P := (((mxT 391).1 = 52 ∧ mxG h1) ∧ vp_in 0 (mxT 391).2) ∧ True) 2 rfl rfl ⟨cA sT_391 G1 (vpl rfl), trivial⟩ ?_
    refine wp_J (j := 16) (st' := []) rfl rfl ?_
    refine wp_steps (i' := 17) (ls' := [some (.ref 100), some (.int i1), some (.int i2), some (.int i3), some (.ref 391), none]) (st' := [.int 0]) (h' := mx_wl h1 391 0 (v.toInt64)) (P := True) 1 rfl rfl trivial ?_
    exact wp_end (o := .inl (some (.int 0))) (h' := mx_wl h1 391 0 (v.toInt64)) (P := True) rfl rfl trivial q
  | .inr k, q =>
    obtain ⟨c, hm, q⟩ := q
    simp only [List.mem_cons, Prod.mk.injEq, List.not_mem_nil, or_false] at hm
    rcases hm with ⟨rfl, rfl⟩ | ⟨rfl, rfl⟩
    · show mx_wp (d + 1) 337 11 [some (.ref 100), some (.int i1), some (.int i2), some (.int i3), some (.ref 391), none] [] h1 Q
      refine wp_steps (i' := 12) (ls' := [some (.ref 100), some (.int i1), some (.int i2), some (.int i3), some (.ref 391), none]) (st' := [.int 1]) (h' := h1) (P := True) 1 rfl rfl trivial ?_
      exact wp_end (o := .inl (some (.int 1))) (h' := h1) (P := True) rfl rfl trivial q
    · show mx_wp (d + 1) 337 14 [some (.ref 100), some (.int i1), some (.int i2), some (.int i3), some (.ref 391), none] [] h1 Q
      refine wp_steps (i' := 15) (ls' := [some (.ref 100), some (.int i1), some (.int i2), some (.int i3), some (.ref 391), none]) (st' := [.int 2]) (h' := h1) (P := True) 1 rfl rfl trivial ?_
      exact wp_end (o := .inl (some (.int 2))) (h' := h1) (P := True) rfl rfl trivial q
set_option maxRecDepth 8000 in
theorem wr_338 {d : Nat} {h : mxH} {Q : mxO → mxH → Prop} {i1 : Int32} (G : mxG h) (k : mx_wp d 166 0 (mx_fr 166 [.ref 100, .int i1]) [] h (wq (fun v => v.toInt64) [(0, 1)] Q)) : mx_wp (d + 1) 338 0 (mx_fr 338 [.ref 100, .int i1, .ref 391]) [] h Q := by
  show mx_wp (d + 1) 338 0 [some (.ref 100), some (.int i1), some (.ref 391), none] [] h Q
  refine wp_steps (i' := 4) (ls' := [some (.ref 100), some (.int i1), some (.ref 391), none]) (st' := [.int i1, .ref 100, .int 0, .ref 391]) (h' := h) (P := True) 4 rfl rfl trivial ?_
  refine wp_call (b := false) (y' := 166) (as := [.ref 100, .int i1]) (rest := [.int 0, .ref 391]) (P := ((mxT 100).1 = mxRc 166 ∧ mxG h)) rfl (by with_unfolding_all rfl) ⟨congrArg Prod.fst sT_100, G⟩ (Nat.le_of_ble_eq_true rfl) (mx_wp.mono (fun o h1 q => ?_) k)
  obtain ⟨G1, q⟩ := q
  match o, q with
  | .inl (some (.int v)), q =>
    show mx_wp (d + 1) 338 5 [some (.ref 100), some (.int i1), some (.ref 391), none] [.int v, .int 0, .ref 391] h1 Q
    refine wp_steps (i' := 7) (ls' := [some (.ref 100), some (.int i1), some (.ref 391), none]) (st' := []) (h' := mx_wl h1 391 0 v.toInt64) (P := (((mxT 391).1 = 52 ∧ mxG h1) ∧ vp_in 0 (mxT 391).2) ∧ True) 2 rfl rfl ⟨cA sT_391 G1 (vpl rfl), trivial⟩ ?_
    refine wp_J (j := 11) (st' := []) rfl rfl ?_
    refine wp_steps (i' := 12) (ls' := [some (.ref 100), some (.int i1), some (.ref 391), none]) (st' := [.int 0]) (h' := mx_wl h1 391 0 (v.toInt64)) (P := True) 1 rfl rfl trivial ?_
    exact wp_end (o := .inl (some (.int 0))) (h' := mx_wl h1 391 0 (v.toInt64)) (P := True) rfl rfl trivial q
  | .inr k, q =>
    obtain ⟨c, hm, q⟩ := q
    simp only [List.mem_cons, Prod.mk.injEq, List.not_mem_nil, or_false] at hm
    rcases hm with ⟨rfl, rfl⟩
    · show mx_wp (d + 1) 338 9 [some (.ref 100), some (.int i1), some (.ref 391), none] [] h1 Q
      refine wp_steps (i' := 10) (ls' := [some (.ref 100), some (.int i1), some (.ref 391), none]) (st' := [.int 1]) (h' := h1) (P := True) 1 rfl rfl trivial ?_
      exact wp_end (o := .inl (some (.int 1))) (h' := h1) (P := True) rfl rfl trivial q
set_option maxRecDepth 8000 in
theorem wr_339 {d : Nat} {h : mxH} {Q : mxO → mxH → Prop} (G : mxG h) (k : mx_wp d 167 0 (mx_fr 167 [.ref 100]) [] h (wq (fun v => v.toInt64) [(0, 1)] Q)) : mx_wp (d + 1) 339 0 (mx_fr 339 [.ref 100, .ref 391]) [] h Q := by
  show mx_wp (d + 1) 339 0 [some (.ref 100), some (.ref 391), none] [] h Q
  refine wp_steps (i' := 3) (ls' := [some (.ref 100), some (.ref 391), none]) (st' := [.ref 100, .int 0, .ref 391]) (h' := h) (P := True) 3 rfl rfl trivial ?_
  refine wp_call (b := false) (y' := 167) (as := [.ref 100]) (rest := [.int 0, .ref 391]) (P := ((mxT 100).1 = mxRc 167 ∧ mxG h)) rfl (by with_unfolding_all rfl) ⟨congrArg Prod.fst sT_100, G⟩ (Nat.le_of_ble_eq_true rfl) (mx_wp.mono (fun o h1 q => ?_) k)
  obtain ⟨G1, q⟩ := q
  match o, q with
  | .inl (some (.int v)), q =>
    show mx_wp (d + 1) 339 4 [some (.ref 100), some (.ref 391), none] [.int v, .int 0, .ref 391] h1 Q
    refine wp_steps (i' := 6) (ls' := [some (.ref 100), some (.ref 391), none]) (st' := []) (h' := mx_wl h1 391 0 v.toInt64) (P := (((mxT 391).1 = 52 ∧ mxG h1) ∧ vp_in 0 (mxT 391).2) ∧ True) 2 rfl rfl ⟨cA sT_391 G1 (vpl rfl), trivial⟩ ?_
    refine wp_J (j := 10) (st' := []) rfl rfl ?_
    refine wp_steps (i' := 11) (ls' := [some (.ref 100), some (.ref 391), none]) (st' := [.int 0]) (h' := mx_wl h1 391 0 (v.toInt64)) (P := True) 1 rfl rfl trivial ?_
    exact wp_end (o := .inl (some (.int 0))) (h' := mx_wl h1 391 0 (v.toInt64)) (P := True) rfl rfl trivial q
  | .inr k, q =>
    obtain ⟨c, hm, q⟩ := q
    simp only [List.mem_cons, Prod.mk.injEq, List.not_mem_nil, or_false] at hm
    rcases hm with ⟨rfl, rfl⟩
    · show mx_wp (d + 1) 339 8 [some (.ref 100), some (.ref 391), none] [] h1 Q
      refine wp_steps (i' := 9) (ls' := [some (.ref 100), some (.ref 391), none]) (st' := [.int 1]) (h' := h1) (P := True) 1 rfl rfl trivial ?_
      exact wp_end (o := .inl (some (.int 1))) (h' := h1) (P := True) rfl rfl trivial q
set_option maxRecDepth 8000 in
theorem wr_340 {d : Nat} {h : mxH} {Q : mxO → mxH → Prop} {i1 : Int32} (G : mxG h) (k : mx_wp d 171 0 (mx_fr 171 [.ref 100, .int i1]) [] h (wq (fun v => v.toInt64) [(0, 1)] Q)) : mx_wp (d + 1) 340 0 (mx_fr 340 [.ref 100, .int i1, .ref 391]) [] h Q := by
  show mx_wp (d + 1) 340 0 [some (.ref 100), some (.int i1), some (.ref 391), none] [] h Q
  refine wp_steps (i' := 4) (ls' := [some (.ref 100), some (.int i1), some (.ref 391), none]) (st' := [.int i1, .ref 100, .int 0, .ref 391]) (h' := h) (P := True) 4 rfl rfl trivial ?_
  refine wp_call (b := false) (y' := 171) (as := [.ref 100, .int i1]) (rest := [.int 0, .ref 391]) (P := ((mxT 100).1 = mxRc 171 ∧ mxG h)) rfl (by with_unfolding_all rfl) ⟨congrArg Prod.fst sT_100, G⟩ (Nat.le_of_ble_eq_true rfl) (mx_wp.mono (fun o h1 q => ?_) k)
  obtain ⟨G1, q⟩ := q
  match o, q with
  | .inl (some (.int v)), q =>
    show mx_wp (d + 1) 340 5 [some (.ref 100), some (.int i1), some (.ref 391), none] [.int v, .int 0, .ref 391] h1 Q
    refine wp_steps (i' := 7) (ls' := [some (.ref 100), some (.int i1), some (.ref 391), none]) (st' := []) (h' := mx_wl h1 391 0 v.toInt64) (P := (((mxT 391).1 = 52 ∧ mxG h1) ∧ vp_in 0 (mxT 391).2) ∧ True) 2 rfl rfl ⟨cA sT_391 G1 (vpl rfl), trivial⟩ ?_
    refine wp_J (j := 11) (st' := []) rfl rfl ?_
    refine wp_steps (i' := 12) (ls' := [some (.ref 100), some (.int i1), some (.ref 391), none]) (st' := [.int 0]) (h' := mx_wl h1 391 0 (v.toInt64)) (P := True) 1 rfl rfl trivial ?_
    exact wp_end (o := .inl (some (.int 0))) (h' := mx_wl h1 391 0 (v.toInt64)) (P := True) rfl rfl trivial q
  | .inr k, q =>
    obtain ⟨c, hm, q⟩ := q
    simp only [List.mem_cons, Prod.mk.injEq, List.not_mem_nil, or_false] at hm
    rcases hm with ⟨rfl, rfl⟩
    · show mx_wp (d + 1) 340 9 [some (.ref 100), some (.int i1), some (.ref 391), none] [] h1 Q
      refine wp_steps (i' := 10) (ls' := [some (.ref 100), some (.int i1), some (.ref 391), none]) (st' := [.int 1]) (h' := h1) (P := True) 1 rfl rfl trivial ?_
      exact wp_end (o := .inl (some (.int 1))) (h' := h1) (P := True) rfl rfl trivial q
set_option maxRecDepth 8000 in
theorem wr_341 {d : Nat} {h : mxH} {Q : mxO → mxH → Prop} {i1 : Int32} {i2 : Int32} {i3 : Int32} (G : mxG h) (k : mx_wp d 172 0 (mx_fr 172 [.ref 100, .int i1, .int i2, .int i3]) [] h (wq (fun v => v.toInt64) [(2, 1), (0, 2), (3, 3)] Q)) : mx_wp (d + 1) 341 0 (mx_fr 341 [.ref 100, .int i1, .int i2, .int i3, .ref 391]) [] h Q := by
  show mx_wp (d + 1) 341 0 [some (.ref 100), some (.int i1), some (.int i2), some (.int i3), some (.ref 391), none] [] h Q
  refine wp_steps (i' := 6) (ls' := [some (.ref 100), some (.int i1), some (.int i2), some (.int i3), some (.ref 391), none]) (st' := [.int i3, .int i2, .int i1, .ref 100, .int 0, .ref 391]) (h' := h) (P := True) 6 rfl rfl trivial ?_
  refine wp_call (b := false) (y' := 172) (as := [.ref 100, .int i1, .int i2, .int i3]) (rest := [.int 0, .ref 391]) (P := ((mxT 100).1 = mxRc 172 ∧ mxG h)) rfl (by with_unfolding_all rfl) ⟨congrArg Prod.fst sT_100, G⟩ (Nat.le_of_ble_eq_true rfl) (mx_wp.mono (fun o h1 q => ?_) k)
  obtain ⟨G1, q⟩ := q
  match o, q with
  | .inl (some (.int v)), q =>
    show mx_wp (d + 1) 341 7 [some (.ref 100), some (.int i1), some (.int i2), some (.int i3), some (.ref 391), none] [.int v, .int 0, .ref 391] h1 Q
    refine wp_steps (i' := 9) (ls' := [some (.ref 100), some (.int i1), some (.int i2), some (.int i3), some (.ref 391), none]) (st' := []) (h' := mx_wl h1 391 0 v.toInt64) (P := (((mxT 391).1 = 52 ∧ mxG h1) ∧ vp_in 0 (mxT 391).2) ∧ True) 2 rfl rfl ⟨cA sT_391 G1 (vpl rfl), trivial⟩ ?_
    refine wp_J (j := 19) (st' := []) rfl rfl ?_
    refine wp_steps (i' := 20) (ls' := [some (.ref 100), some (.int i1), some (.int i2), some (.int i3), some (.ref 391), none]) (st' := [.int 0]) (h' := mx_wl h1 391 0 (v.toInt64)) (P := True) 1 rfl rfl trivial ?_
    exact wp_end (o := .inl (some (.int 0))) (h' := mx_wl h1 391 0 (v.toInt64)) (P := True) rfl rfl trivial q
  | .inr k, q =>
    obtain ⟨c, hm, q⟩ := q
    simp only [List.mem_cons, Prod.mk.injEq, List.not_mem_nil, or_false] at hm
    rcases hm with ⟨rfl, rfl⟩ | ⟨rfl, rfl⟩ | ⟨rfl, rfl⟩
    · show mx_wp (d + 1) 341 11 [some (.ref 100), some (.int i1), some (.int i2), some (.int i3), some (.ref 391), none] [] h1 Q
      refine wp_steps (i' := 12) (ls' := [some (.ref 100), some (.int i1), some (.int i2), some (.int i3), some (.ref 391), none]) (st' := [.int 1]) (h' := h1) (P := True) 1 rfl rfl trivial ?_
      exact wp_end (o := .inl (some (.int 1))) (h' := h1) (P := True) rfl rfl trivial q
    · show mx_wp (d + 1) 341 14 [some (.ref 100), some (.int i1), some (.int i2), some (.int i3), some (.ref 391), none] [] h1 Q
      refine wp_steps (i' := 15) (ls' := [some (.ref 100), some (.int i1), some (.int i2), some (.int i3), some (.ref 391), none]) (st' := [.int 2]) (h' := h1) (P := True) 1 rfl rfl trivial ?_
      exact wp_end (o := .inl (some (.int 2))) (h' := h1) (P := True) rfl rfl trivial q
    · show mx_wp (d + 1) 341 17 [some (.ref 100), some (.int i1), some (.int i2), some (.int i3), some (.ref 391), none] [] h1 Q
      refine wp_steps (i' := 18) (ls' := [some (.ref 100), some (.int i1), some (.int i2), some (.int i3), some (.ref 391), none]) (st' := [.int 3]) (h' := h1) (P := True) 1 rfl rfl trivial ?_
      exact wp_end (o := .inl (some (.int 3))) (h' := h1) (P := True) rfl rfl trivial q
set_option maxRecDepth 8000 in
theorem wr_342 {d : Nat} {h : mxH} {Q : mxO → mxH → Prop} {i1 : Int32} {i2 : Int32} (G : mxG h) (k : mx_wp d 173 0 (mx_fr 173 [.ref 100, .int i1, .int i2]) [] h (wq (fun v => v.toInt64) [(0, 1)] Q)) : mx_wp (d + 1) 342 0 (mx_fr 342 [.ref 100, .int i1, .int i2, .ref 391]) [] h Q := by
  show mx_wp (d + 1) 342 0 [some (.ref 100), some (.int i1), some (.int i2), some (.ref 391), none] [] h Q
  refine wp_steps (i' := 5) (ls' := [some (.ref 100), some (.int i1), some (.int i2), some (.ref 391), none]) (st' := [.int i2, .int i1, .ref 100, .int 0, .ref 391]) (h' := h) (P := True) 5 rfl rfl trivial ?_
  refine wp_call (b := false) (y' := 173) (as := [.ref 100, .int i1, .int i2]) (rest := [.int 0, .ref 391]) (P := ((mxT 100).1 = mxRc 173 ∧ mxG h)) rfl (by with_unfolding_all rfl) ⟨congrArg Prod.fst sT_100, G⟩ (Nat.le_of_ble_eq_true rfl) (mx_wp.mono (fun o h1 q => ?_) k)
  obtain ⟨G1, q⟩ := q
  match o, q with
  | .inl (some (.int v)), q =>
    show mx_wp (d + 1) 342 6 [some (.ref 100), some (.int i1), some (.int i2), some (.ref 391), none] [.int v, .int 0, .ref 391] h1 Q
    refine wp_steps (i' := 8) (ls' := [some (.ref 100), some (.int i1), some (.int i2), some (.ref 391), none]) (st' := []) (h' := mx_wl h1 391 0 v.toInt64) (P := (((mxT 391).1 = 52 ∧ mxG h1) ∧ vp_in 0 (mxT 391).2) ∧ True) 2 rfl rfl ⟨cA sT_391 G1 (vpl rfl), trivial⟩ ?_
    refine wp_J (j := 12) (st' := []) rfl rfl ?_
    refine wp_steps (i' := 13) (ls' := [some (.ref 100), some (.int i1), some (.int i2), some (.ref 391), none]) (st' := [.int 0]) (h' := mx_wl h1 391 0 (v.toInt64)) (P := True) 1 rfl rfl trivial ?_
    exact wp_end (o := .inl (some (.int 0))) (h' := mx_wl h1 391 0 (v.toInt64)) (P := True) rfl rfl trivial q
  | .inr k, q =>
    obtain ⟨c, hm, q⟩ := q
    simp only [List.mem_cons, Prod.mk.injEq, List.not_mem_nil, or_false] at hm
    rcases hm with ⟨rfl, rfl⟩
    · show mx_wp (d + 1) 342 10 [some (.ref 100), some (.int i1), some (.int i2), some (.ref 391), none] [] h1 Q
      refine wp_steps (i' := 11) (ls' := [some (.ref 100), some (.int i1), some (.int i2), some (.ref 391), none]) (st' := [.int 1]) (h' := h1) (P := True) 1 rfl rfl trivial ?_
      exact wp_end (o := .inl (some (.int 1))) (h' := h1) (P := True) rfl rfl trivial q
set_option maxRecDepth 8000 in
theorem wr_343 {d : Nat} {h : mxH} {Q : mxO → mxH → Prop} {i1 : Int32} {i2 : Int32} (G : mxG h) (k : mx_wp d 174 0 (mx_fr 174 [.ref 100, .int i1, .int i2]) [] h (wq (fun v => v.toInt64) [(0, 1)] Q)) : mx_wp (d + 1) 343 0 (mx_fr 343 [.ref 100, .int i1, .int i2, .ref 391]) [] h Q := by
  show mx_wp (d + 1) 343 0 [some (.ref 100), some (.int i1), some (.int i2), some (.ref 391), none] [] h Q
  refine wp_steps (i' := 5) (ls' := [some (.ref 100), some (.int i1), some (.int i2), some (.ref 391), none]) (st' := [.int i2, .int i1, .ref 100, .int 0, .ref 391]) (h' := h) (P := True) 5 rfl rfl trivial ?_
  refine wp_call (b := false) (y' := 174) (as := [.ref 100, .int i1, .int i2]) (rest := [.int 0, .ref 391]) (P := ((mxT 100).1 = mxRc 174 ∧ mxG h)) rfl (by with_unfolding_all rfl) ⟨congrArg Prod.fst sT_100, G⟩ (Nat.le_of_ble_eq_true rfl) (mx_wp.mono (fun o h1 q => ?_) k)
  obtain ⟨G1, q⟩ := q
  match o, q with
  | .inl (some (.int v)), q =>
    show mx_wp (d + 1) 343 6 [some (.ref 100), some (.int i1), some (.int i2), some (.ref 391), none] [.int v, .int 0, .ref 391] h1 Q
    refine wp_steps (i' := 8) (ls' := [some (.ref 100), some (.int i1), some (.int i2), some (.ref 391), none]) (st' := []) (h' := mx_wl h1 391 0 v.toInt64) (P := (((mxT 391).1 = 52 ∧ mxG h1) ∧ vp_in 0 (mxT 391).2) ∧ True) 2 rfl rfl ⟨cA sT_391 G1 (vpl rfl), trivial⟩ ?_
    refine wp_J (j := 12) (st' := []) rfl rfl ?_
    refine wp_steps (i' := 13) (ls' := [some (.ref 100), some (.int i1), some (.int i2), some (.ref 391), none]) (st' := [.int 0]) (h' := mx_wl h1 391 0 (v.toInt64)) (P := True) 1 rfl rfl trivial ?_
    exact wp_end (o := .inl (some (.int 0))) (h' := mx_wl h1 391 0 (v.toInt64)) (P := True) rfl rfl trivial q
  | .inr k, q =>
    obtain ⟨c, hm, q⟩ := q
    simp only [List.mem_cons, Prod.mk.injEq, List.not_mem_nil, or_false] at hm
    rcases hm with ⟨rfl, rfl⟩
    · show mx_wp (d + 1) 343 10 [some (.ref 100), some (.int i1), some (.int i2), some (.ref 391), none] [] h1 Q
      refine wp_steps (i' := 11) (ls' := [some (.ref 100), some (.int i1), some (.int i2), some (.ref 391), none]) (st' := [.int 1]) (h' := h1) (P := True) 1 rfl rfl trivial ?_
      exact wp_end (o := .inl (some (.int 1))) (h' := h1) (P := True) rfl rfl trivial q
set_option maxRecDepth 8000 in
theorem wr_344 {d : Nat} {h : mxH} {Q : mxO → mxH → Prop} {i1 : Int32} {i2 : Int32} (G : mxG h) (k : mx_wp d 177 0 (mx_fr 177 [.ref 100, .int i1, .int i2]) [] h (wq (fun v => v.toInt64) [(2, 1)] Q)) : mx_wp (d + 1) 344 0 (mx_fr 344 [.ref 100, .int i1, .int i2, .ref 391]) [] h Q := by
  show mx_wp (d + 1) 344 0 [some (.ref 100), some (.int i1), some (.int i2), some (.ref 391), none] [] h Q
  refine wp_steps (i' := 5) (ls' := [some (.ref 100), some (.int i1), some (.int i2), some (.ref 391), none]) (st' := [.int i2, .int i1, .ref 100, .int 0, .ref 391]) (h' := h) (P := True) 5 rfl rfl trivial ?_
  refine wp_call (b := false) (y' := 177) (as := [.ref 100, .int i1, .int i2]) (rest := [.int 0, .ref 391]) (P := ((mxT 100).1 = mxRc 177 ∧ mxG h)) rfl (by with_unfolding_all rfl) ⟨congrArg Prod.fst sT_100, G⟩ (Nat.le_of_ble_eq_true rfl) (mx_wp.mono (fun o h1 q => ?_) k)
  obtain ⟨G1, q⟩ := q
  match o, q with
  | .inl (some (.int v)), q =>
    show mx_wp (d + 1) 344 6 [some (.ref 100), some (.int i1), some (.int i2), some (.ref 391), none] [.int v, .int 0, .ref 391] h1 Q
    refine wp_steps (i' := 8) (ls' := [some (.ref 100), some (.int i1), some (.int i2), some (.ref 391), none]) (st' := []) (h' := mx_wl h1 391 0 v.toInt64) (P := (((mxT 391).1 = 52 ∧ mxG h1) ∧ vp_in 0 (mxT 391).2) ∧ True) 2 rfl rfl ⟨cA sT_391 G1 (vpl rfl), trivial⟩ ?_
    refine wp_J (j := 12) (st' := []) rfl rfl ?_
    refine wp_steps (i' := 13) (ls' := [some (.ref 100), some (.int i1), some (.int i2), some (.ref 391), none]) (st' := [.int 0]) (h' := mx_wl h1 391 0 (v.toInt64)) (P := True) 1 rfl rfl trivial ?_
    exact wp_end (o := .inl (some (.int 0))) (h' := mx_wl h1 391 0 (v.toInt64)) (P := True) rfl rfl trivial q
  | .inr k, q =>
    obtain ⟨c, hm, q⟩ := q
    simp only [List.mem_cons, Prod.mk.injEq, List.not_mem_nil, or_false] at hm
    rcases hm with ⟨rfl, rfl⟩
    · show mx_wp (d + 1) 344 10 [some (.ref 100), some (.int i1), some (.int i2), some (.ref 391), none] [] h1 Q
      refine wp_steps (i' := 11) (ls' := [some (.ref 100), some (.int i1), some (.int i2), some (.ref 391), none]) (st' := [.int 1]) (h' := h1) (P := True) 1 rfl rfl trivial ?_
      exact wp_end (o := .inl (some (.int 1))) (h' := h1) (P := True) rfl rfl trivial q
set_option maxRecDepth 8000 in
theorem wr_345 {d : Nat} {h : mxH} {Q : mxO → mxH → Prop} {i1 : Int32} {i2 : Int32} (G : mxG h) (k : mx_wp d 178 0 (mx_fr 178 [.ref 100, .int i1, .int i2]) [] h (wq (fun v => v.toInt64) [(3, 1)] Q)) : mx_wp (d + 1) 345 0 (mx_fr 345 [.ref 100, .int i1, .int i2, .ref 391]) [] h Q := by
  show mx_wp (d + 1) 345 0 [some (.ref 100), some (.int i1), some (.int i2), some (.ref 391), none] [] h Q
  refine wp_steps (i' := 5) (ls' := [some (.ref 100), some (.int i1), some (.int i2), some (.ref 391), none]) (st' := [.int i2, .int i1, .ref 100, .int 0, .ref 391]) (h' := h) (P := True) 5 rfl rfl trivial ?_
  refine wp_call (b := false) (y' := 178) (as := [.ref 100, .int i1, .int i2]) (rest := [.int 0, .ref 391]) (P := ((mxT 100).1 = mxRc 178 ∧ mxG h)) rfl (by with_unfolding_all rfl) ⟨congrArg Prod.fst sT_100, G⟩ (Nat.le_of_ble_eq_true rfl) (mx_wp.mono (fun o h1 q => ?_) k)
  obtain ⟨G1, q⟩ := q
  match o, q with
  | .inl (some (.int v)), q =>
    show mx_wp (d + 1) 345 6 [some (.ref 100), some (.int i1), some (.int i2), some (.ref 391), none] [.int v, .int 0, .ref 391] h1 Q
    refine wp_steps (i' := 8) (ls' := [some (.ref 100), some (.int i1), some (.int i2), some (.ref 391), none]) (st' := []) (h' := mx_wl h1 391 0 v.toInt64) (P := (((mxT 391).1 = 52 ∧ mxG h1) ∧ vp_in 0 (mxT 391).2) ∧ True) 2 rfl rfl ⟨cA sT_391 G1 (vpl rfl), trivial⟩ ?_
    refine wp_J (j := 12) (st' := []) rfl rfl ?_
    refine wp_steps (i' := 13) (ls' := [some (.ref 100), some (.int i1), some (.int i2), some (.ref 391), none]) (st' := [.int 0]) (h' := mx_wl h1 391 0 (v.toInt64)) (P := True) 1 rfl rfl trivial ?_
    exact wp_end (o := .inl (some (.int 0))) (h' := mx_wl h1 391 0 (v.toInt64)) (P := True) rfl rfl trivial q
  | .inr k, q =>
    obtain ⟨c, hm, q⟩ := q
    simp only [List.mem_cons, Prod.mk.injEq, List.not_mem_nil, or_false] at hm
    rcases hm with ⟨rfl, rfl⟩
    · show mx_wp (d + 1) 345 10 [some (.ref 100), some (.int i1), some (.int i2), some (.ref 391), none] [] h1 Q
      refine wp_steps (i' := 11) (ls' := [some (.ref 100), some (.int i1), some (.int i2), some (.ref 391), none]) (st' := [.int 1]) (h' := h1) (P := True) 1 rfl rfl trivial ?_
      exact wp_end (o := .inl (some (.int 1))) (h' := h1) (P := True) rfl rfl trivial q
