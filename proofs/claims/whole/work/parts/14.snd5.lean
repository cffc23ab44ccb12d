/-! SOUNDNESS, 5: instructions of the heap -/
theorem mx_wdA {a : Nat} (h : 3 ≤ a ∧ a < 29) : ∃ j : Nat, a = 3 + j ∧ j < 26 := ⟨a - 3, by omega, by omega⟩
theorem mx_evA {a : Nat} (h : 30 ≤ a ∧ a < 82 ∧ a % 2 = 0) : ∃ j : Nat, a = 30 + 2 * j ∧ j < 26 := ⟨(a - 30) / 2, by omega, by omega⟩
theorem mx_odA {a : Nat} (h : 31 ≤ a ∧ a < 83 ∧ a % 2 = 1) : ∃ j : Nat, a = 31 + 2 * j ∧ j < 26 := ⟨(a - 31) / 2, by omega, by omega⟩
theorem mx_cls_ok {y : Nat} (hok : mx_ok y = true) : (mxN y).cls = mxCn (mxOw y) := by
  unfold mx_ok at hok
  rw [Bool.and_eq_true] at hok
  have h := hok.1
  unfold mx_ok0 at h
  simp only [Bool.and_eq_true, decide_eq_true_eq] at h
  exact h.2
section SNC
variable {G : mxGl} {p : Program} {l : Launch} {e : Env} {R : Room} {s : State} {m : MethodId} {args : Array Value} {below : List Frame} {meth : Method} {c : Code} {y : Nat} {h0 : mxH} {Q : State → Prop}
theorem mx_narI (x : Int32) : narrow .int (.int x) = .int x := rfl
theorem mx_fitI (x : Int32) : fits .int (.int x) = true := rfl
theorem mx_narZ {x : Int32} (h : x = 0 ∨ x = 1) : narrow .boolean (.int x) = .int x ∧ fits .boolean (.int x) = true := by rcases h with rfl | rfl <;> exact ⟨by decide +kernel, by decide +kernel⟩
theorem mx_narR {t : FieldType} (ht : (∃ n, t = .object n) ∨ ∃ u, t = .array u) {v : Value} (hv : v = .null ∨ ∃ a, v = .ref a) : narrow t v = v ∧ fits t v = true := by
  rcases ht with ⟨n, rfl⟩ | ⟨u, rfl⟩ <;> rcases hv with rfl | ⟨a, rfl⟩ <;> exact ⟨rfl, rfl⟩
set_option maxHeartbeats 4000000 in
theorem mx_sgf (C : mx_Cx G p l s m meth c y) {i pc len : Nat} {ix : Nat} {r : List Nat} {v : Int32} {ls : mxLs} {st st' : List Value} {h h' : mxH} {P : Prop} (he : (mxC y)[i]? = some (pc, .getfield ix, len, r, v)) (hB : mx_gf r st h = some (st', h', P)) (hP : P) (hRf : 8 ≤ R.frames) (hRl : 128 ≤ R.locals) (hm1 : mx_cs h0 ≤ mx_cs h) (hm2 : mx_n h0 ≤ mx_n h) (hc1 : mx_cs h' - mx_cs h0 ≤ R.cells) (hc2 : mx_n h' - mx_n h0 ≤ R.slots)
    (k : mx_WW G p l e R s m args below meth c y h0 Q (i + 1) ls st' h') : mx_WW G p l e R s m args below meth c y h0 Q i ls st h := by
  obtain ⟨hx, hb, hml, hown, hK, hST, hlocks, hret, hname, hG, hl, htab, hok, hy⟩ := C
  obtain ⟨hd, hpc, hn, ho⟩ := mx_ent hok he
  intro H locs la hR hS hL
  rw [hpc]
  have hts : ∀ w ∈ mxAll, w.before args s = true := fun w hw => hK.w hw
  have hD := mx_ws_D G h
  obtain ⟨rfl, hnx⟩ := hn 3 rfl
  rcases mx_gf_inv hB with ⟨a, t, ci, kf, rfl, rfl, rfl, rfl, rfl⟩ | ⟨a, t, ci, kf, rfl, rfl, rfl, rfl, rfl⟩ | ⟨a, t, ci, kf, off, rfl, rfl, rfl, rfl, rfl⟩ | ⟨a, t, ci, kf, rfl, rfl, rfl, rfl, rfl⟩ | ⟨a, t, rfl, rfl, rfl, rfl, rfl⟩ | ⟨a, t, rfl, rfl, rfl, rfl, rfl⟩ | ⟨a, t, rfl, rfl, rfl, rfl, rfl⟩ | ⟨a, t, rfl, rfl, rfl, rfl, rfl⟩
  · obtain ⟨hs, hg⟩ := hP
    change (decide (ci < 11 ∧ kf < mxNf ci) && mxFi ci kf && decide ((mxOw y, ix, ci, kf) ∈ mxFLt)) = true at ho
    simp only [Bool.and_eq_true, decide_eq_true_eq] at ho
    obtain ⟨⟨⟨hci, hk⟩, hf⟩, hfl⟩ := ho
    have hal := mx_alc hg (a := a) (by omega)
    have hobj := mx_arr G hal.1 hal.2
    rw [mx_E_o G hs hci] at hobj
    rw [List.map_cons]
    change W _ _ _ _ _ _ _ _ _ _ _ _ _ _ _ (F0 _ _ _ (mx_rc G a :: _))
    rw [mx_rc_obj G hal.1]
    have z := k H locs la hR hS hL
    rw [hnx] at z
    exact va_get (D := g_D G) (ci := ci) (v := .int (mx_i h a kf)) (C := mx_cn ci) (T := mx_tf ci) (N := mxNf ci) hx hb hts (mx_uw hci) hown hK.2.1 hR.2.1 (a - 100) hobj (mx_cl_get hci) kf hk (hK.w (mx_fl _ hfl)) (fun _ h9 => h9) (by rw [mx_fs_get G hk]; unfold mx_fv; rw [if_pos hf]) hd z
  · obtain ⟨hs, hg⟩ := hP
    change (decide (ci < 11 ∧ kf < mxNf ci) && !mxFi ci kf && decide ((mxOw y, ix, ci, kf) ∈ mxFLt)) = true at ho
    simp only [Bool.and_eq_true, decide_eq_true_eq, Bool.not_eq_true'] at ho
    obtain ⟨⟨⟨hci, hk⟩, hf⟩, hfl⟩ := ho
    have hal := mx_alc hg (a := a) (by omega)
    have hobj := mx_arr G hal.1 hal.2
    rw [mx_E_o G hs hci] at hobj
    rw [List.map_cons]
    change W _ _ _ _ _ _ _ _ _ _ _ _ _ _ _ (F0 _ _ _ (mx_rc G a :: _))
    rw [mx_rc_obj G hal.1]
    have z := k H locs la hR hS hL
    rw [hnx] at z
    exact va_get (D := g_D G) (ci := ci) (v := mx_rc G (mx_r h a kf)) (C := mx_cn ci) (T := mx_tf ci) (N := mxNf ci) hx hb hts (mx_uw hci) hown hK.2.1 hR.2.1 (a - 100) hobj (mx_cl_get hci) kf hk (hK.w (mx_fl _ hfl)) (fun _ h9 => h9) (by rw [mx_fs_get G hk]; unfold mx_fv; rw [if_neg (by rw [hf]; exact fun q => by cases q)]) hd z
  · obtain ⟨hs, hg⟩ := hP
    change (decide (ci < 11 ∧ kf < mxNf ci) && !mxFi ci kf && decide ((ci, kf, off) ∈ mxFin) && decide ((mxOw y, ix, ci, kf) ∈ mxFLt)) = true at ho
    simp only [Bool.and_eq_true, decide_eq_true_eq, Bool.not_eq_true'] at ho
    obtain ⟨⟨⟨⟨hci, hk⟩, hf⟩, hfin⟩, hfl⟩ := ho
    have hro : mx_r h a kf = a + off := hg.2 _ hfin a hs
    have hal := mx_alc hg (a := a) (by omega)
    have hobj := mx_arr G hal.1 hal.2
    rw [mx_E_o G hs hci] at hobj
    rw [List.map_cons]
    change W _ _ _ _ _ _ _ _ _ _ _ _ _ _ _ (F0 _ _ _ (mx_rc G a :: _))
    rw [mx_rc_obj G hal.1]
    have z := k H locs la hR hS hL
    rw [hnx] at z
    exact va_get (D := g_D G) (ci := ci) (v := mx_rc G (a + off)) (C := mx_cn ci) (T := mx_tf ci) (N := mxNf ci) hx hb hts (mx_uw hci) hown hK.2.1 hR.2.1 (a - 100) hobj (mx_cl_get hci) kf hk (hK.w (mx_fl _ hfl)) (fun _ h9 => h9) (by rw [mx_fs_get G hk]; unfold mx_fv; rw [if_neg (by rw [hf]; exact fun q => by cases q), hro]) hd z
  · obtain ⟨hs, hlt⟩ := hP
    change (decide (ci < 11 ∧ kf < mxNf ci) && !mxFi ci kf && decide ((mxOw y, ix, ci, kf) ∈ mxFLt)) = true at ho
    simp only [Bool.and_eq_true, decide_eq_true_eq, Bool.not_eq_true'] at ho
    obtain ⟨⟨⟨hci, hk⟩, hf⟩, hfl⟩ := ho
    have hal : 100 ≤ a ∧ a < 100 + mx_c h := ⟨(mx_T_lt (a := a) (by omega)).1, hlt⟩
    have hobj := mx_arr G hal.1 hal.2
    rw [mx_E_o G hs hci] at hobj
    rw [List.map_cons]
    change W _ _ _ _ _ _ _ _ _ _ _ _ _ _ _ (F0 _ _ _ (mx_rc G a :: _))
    rw [mx_rc_obj G hal.1]
    have z := k H locs la hR hS hL
    rw [hnx] at z
    exact va_get (D := g_D G) (ci := ci) (v := mx_rc G (mx_r h a kf)) (C := mx_cn ci) (T := mx_tf ci) (N := mxNf ci) hx hb hts (mx_uw hci) hown hK.2.1 hR.2.1 (a - 100) hobj (mx_cl_get hci) kf hk (hK.w (mx_fl _ hfl)) (fun _ h9 => h9) (by rw [mx_fs_get G hk]; unfold mx_fv; rw [if_neg (by rw [hf]; exact fun q => by cases q)]) hd z
  · have hq : (mxOw y, ix, 2) ∈ mxFWt := of_decide_eq_true ho
    have hw := hK.w (args := args) (mx_fw _ hq)
    rw [List.map_cons]
    change W _ _ _ _ _ _ _ _ _ _ _ _ _ _ _ (F0 _ _ _ (mx_rc G a :: _))
    have z := k H locs la hR hS hL
    rw [hnx] at z
    obtain ⟨j, rfl, hj9⟩ := mx_wdA hP
    have h26 := hST.1 j (by omega)
    rw [mx_rc_const G (by omega) (by omega) (by omega)]
    change W _ _ _ _ _ _ _ _ _ _ _ _ _ _ _ (F0 _ _ _ (mx_rc G (2 * (3 + j) + 24) :: _)) at z
    rw [show 2 * (3 + j) + 24 = 30 + 2 * j by omega, mx_rc_const G (by omega) (by omega) (by omega)] at z
    exact vk_getf hx hb (h26.2.2.1) hS hown hw (fun _ h9 => h9) hd z
  · have hq : (mxOw y, ix, 3) ∈ mxFWt := of_decide_eq_true ho
    have hw := hK.w (args := args) (mx_fw _ hq)
    rw [List.map_cons]
    change W _ _ _ _ _ _ _ _ _ _ _ _ _ _ _ (F0 _ _ _ (mx_rc G a :: _))
    have z := k H locs la hR hS hL
    rw [hnx] at z
    obtain ⟨j, rfl, hj9⟩ := mx_wdA hP
    have h26 := hST.1 j (by omega)
    rw [mx_rc_const G (by omega) (by omega) (by omega)]
    exact vk_getf hx hb (h26.2.2.2) hS hown hw (fun _ h9 => h9) hd z
  · have hq : (mxOw y, ix, 4) ∈ mxFWt := of_decide_eq_true ho
    have hw := hK.w (args := args) (mx_fw _ hq)
    rw [List.map_cons]
    change W _ _ _ _ _ _ _ _ _ _ _ _ _ _ _ (F0 _ _ _ (mx_rc G a :: _))
    have z := k H locs la hR hS hL
    rw [hnx] at z
    obtain ⟨j, rfl, hj9⟩ := mx_evA hP
    have h26 := hST.2.2.2.1 j (by omega)
    rw [mx_rc_const G (by omega) (by omega) (by omega)]
    change W _ _ _ _ _ _ _ _ _ _ _ _ _ _ _ (F0 _ _ _ (mx_rc G (30 + 2 * j + 1) :: _)) at z
    rw [show 30 + 2 * j + 1 = 31 + 2 * j by omega, mx_rc_const G (by omega) (by omega) (by omega)] at z
    exact vk_getf hx hb (h26.2.2.1) hS hown hw (fun _ h9 => h9) hd z
  · have hq : (mxOw y, ix, 5) ∈ mxFWt := of_decide_eq_true ho
    have hw := hK.w (args := args) (mx_fw _ hq)
    rw [List.map_cons]
    change W _ _ _ _ _ _ _ _ _ _ _ _ _ _ _ (F0 _ _ _ (mx_rc G a :: _))
    have z := k H locs la hR hS hL
    rw [hnx] at z
    obtain ⟨j, rfl, hj9⟩ := mx_evA hP
    have h26 := hST.2.2.2.1 j (by omega)
    rw [mx_rc_const G (by omega) (by omega) (by omega)]
    exact vk_getf hx hb (h26.2.1) hS hown hw (fun _ h9 => h9) hd z
set_option maxHeartbeats 4000000 in
theorem mx_spf (C : mx_Cx G p l s m meth c y) {i pc len : Nat} {ix : Nat} {r : List Nat} {v : Int32} {ls : mxLs} {st st' : List Value} {h h' : mxH} {P : Prop} (he : (mxC y)[i]? = some (pc, .putfield ix, len, r, v)) (hB : mx_pf r st h = some (st', h', P)) (hP : P) (hRf : 8 ≤ R.frames) (hRl : 128 ≤ R.locals) (hm1 : mx_cs h0 ≤ mx_cs h) (hm2 : mx_n h0 ≤ mx_n h) (hc1 : mx_cs h' - mx_cs h0 ≤ R.cells) (hc2 : mx_n h' - mx_n h0 ≤ R.slots)
    (k : mx_WW G p l e R s m args below meth c y h0 Q (i + 1) ls st' h') : mx_WW G p l e R s m args below meth c y h0 Q i ls st h := by
  obtain ⟨hx, hb, hml, hown, hK, hST, hlocks, hret, hname, hG, hl, htab, hok, hy⟩ := C
  obtain ⟨hd, hpc, hn, ho⟩ := mx_ent hok he
  intro H locs la hR hS hL
  rw [hpc]
  have hts : ∀ w ∈ mxAll, w.before args s = true := fun w hw => hK.w hw
  have hD := mx_ws_D G h
  obtain ⟨rfl, hnx⟩ := hn 3 rfl
  rcases mx_pf_inv hB with ⟨x, a, t, ci, kf, rfl, rfl, rfl, rfl, rfl⟩ | ⟨x, a, t, ci, kf, rfl, rfl, rfl, rfl, rfl⟩ | ⟨x, a, t, ci, kf, rfl, rfl, rfl, rfl, rfl⟩ | ⟨x, a, t, ci, kf, rfl, rfl, rfl, rfl, rfl⟩ | ⟨x, a, t, ci, kf, rfl, rfl, rfl, rfl, rfl⟩ | ⟨x, a, t, ci, kf, rfl, rfl, rfl, rfl, rfl⟩
  · obtain ⟨hs, hg⟩ := hP
    change (decide (ci < 11 ∧ kf < mxNf ci) && mxFi ci kf && decide ((mx_tf ci kf).2.2.1 = "I") && !(mx_tf ci kf).2.2.2 && decide ((mxOw y, ix, ci, kf) ∈ mxFLt)) = true at ho
    simp only [Bool.and_eq_true, decide_eq_true_eq, Bool.not_eq_true'] at ho
    obtain ⟨⟨⟨⟨⟨hci, hk⟩, hf⟩, hI⟩, hnf⟩, hfl⟩ := ho
    have hal := mx_alc hg (a := a) (by omega)
    have hobj := mx_arr G hal.1 hal.2
    rw [mx_E_o G hs hci] at hobj
    rw [List.map_cons, List.map_cons]
    have hnar : narrow (mx_ty ci kf) (.int x) = .int x ∧ fits (mx_ty ci kf) (.int x) = true := by
      rcases mx_ty_int hci hk hf with ⟨e1, -⟩ | ⟨-, e2⟩
      · rw [e1]; exact ⟨mx_narI x, mx_fitI x⟩
      · exact absurd (hI.symm.trans e2) (by decide +kernel)
    change W _ _ _ _ _ _ _ _ _ _ _ _ _ _ _ (F0 _ _ _ (.int x :: mx_rc G a :: _))
    rw [mx_rc_obj G hal.1]
    refine mx_putE (D := g_D G) (ci := ci) (C := mx_cn ci) (T := mx_tf ci) (N := mxNf ci) hx hb hts (mx_uw hci) (mx_ty ci) (mx_ty_ok hci) (mx_nm hci) hown hK.2.1 hR.2.1 hD hS (a - 100) hobj (mx_cl_get hci) kf hk (hK.w (mx_fl _ hfl)) (Or.inl hnf) hnar.1 hnar.2 (by rw [mx_fs_len]; exact hk) hd (fun H1 locs1 hP1 hz1 hS1 => ?_)
    have z := k H1 locs1 la (mx_Rep_fi G hR hs hci hf hP1 (fun _ => hz1)) hS1 hL
    rw [hnx] at z
    exact z
  · obtain ⟨⟨hs, hg⟩, h01⟩ := hP
    change (decide (ci < 11 ∧ kf < mxNf ci) && mxFi ci kf && decide ((mx_tf ci kf).2.2.1 = "Z") && !(mx_tf ci kf).2.2.2 && decide ((mxOw y, ix, ci, kf) ∈ mxFLt)) = true at ho
    simp only [Bool.and_eq_true, decide_eq_true_eq, Bool.not_eq_true'] at ho
    obtain ⟨⟨⟨⟨⟨hci, hk⟩, hf⟩, hI⟩, hnf⟩, hfl⟩ := ho
    have hal := mx_alc hg (a := a) (by omega)
    have hobj := mx_arr G hal.1 hal.2
    rw [mx_E_o G hs hci] at hobj
    rw [List.map_cons, List.map_cons]
    have hnar : narrow (mx_ty ci kf) (.int x) = .int x ∧ fits (mx_ty ci kf) (.int x) = true := by
      rcases mx_ty_int hci hk hf with ⟨-, e2⟩ | ⟨e1, -⟩
      · exact absurd (hI.symm.trans e2) (by decide +kernel)
      · rw [e1]; exact mx_narZ h01
    change W _ _ _ _ _ _ _ _ _ _ _ _ _ _ _ (F0 _ _ _ (.int x :: mx_rc G a :: _))
    rw [mx_rc_obj G hal.1]
    refine mx_putE (D := g_D G) (ci := ci) (C := mx_cn ci) (T := mx_tf ci) (N := mxNf ci) hx hb hts (mx_uw hci) (mx_ty ci) (mx_ty_ok hci) (mx_nm hci) hown hK.2.1 hR.2.1 hD hS (a - 100) hobj (mx_cl_get hci) kf hk (hK.w (mx_fl _ hfl)) (Or.inl hnf) hnar.1 hnar.2 (by rw [mx_fs_len]; exact hk) hd (fun H1 locs1 hP1 hz1 hS1 => ?_)
    have z := k H1 locs1 la (mx_Rep_fi G hR hs hci hf hP1 (fun _ => hz1)) hS1 hL
    rw [hnx] at z
    exact z
  · obtain ⟨hs, hlt⟩ := hP
    change (decide (ci < 11 ∧ kf < mxNf ci) && mxFi ci kf && decide ((mx_tf ci kf).2.2.1 = "I") && decide ((mx_tf ci kf).1 = (mxN y).cls ∧ (mxN y).name = "<init>") && decide ((mxOw y, ix, ci, kf) ∈ mxFLt)) = true at ho
    simp only [Bool.and_eq_true, decide_eq_true_eq, Bool.not_eq_true'] at ho
    obtain ⟨⟨⟨⟨⟨hci, hk⟩, hf⟩, hI⟩, hini⟩, hfl⟩ := ho
    have hal : 100 ≤ a ∧ a < 100 + mx_c h := ⟨(mx_T_lt (a := a) (by omega)).1, hlt⟩
    have hobj := mx_arr G hal.1 hal.2
    rw [mx_E_o G hs hci] at hobj
    rw [List.map_cons, List.map_cons]
    have hnar : narrow (mx_ty ci kf) (.int x) = .int x ∧ fits (mx_ty ci kf) (.int x) = true := by
      rcases mx_ty_int hci hk hf with ⟨e1, -⟩ | ⟨-, e2⟩
      · rw [e1]; exact ⟨mx_narI x, mx_fitI x⟩
      · exact absurd (hI.symm.trans e2) (by decide +kernel)
    change W _ _ _ _ _ _ _ _ _ _ _ _ _ _ _ (F0 _ _ _ (.int x :: mx_rc G a :: _))
    rw [mx_rc_obj G hal.1]
    refine mx_putE (D := g_D G) (ci := ci) (C := mx_cn ci) (T := mx_tf ci) (N := mxNf ci) hx hb hts (mx_uw hci) (mx_ty ci) (mx_ty_ok hci) (mx_nm hci) hown hK.2.1 hR.2.1 hD hS (a - 100) hobj (mx_cl_get hci) kf hk (hK.w (mx_fl _ hfl)) (Or.inr ⟨hname.trans hini.2, hini.1.trans (mx_cls_ok hok)⟩) hnar.1 hnar.2 (by rw [mx_fs_len]; exact hk) hd (fun H1 locs1 hP1 hz1 hS1 => ?_)
    have z := k H1 locs1 la (mx_Rep_fi G hR hs hci hf hP1 (fun _ => hz1)) hS1 hL
    rw [hnx] at z
    exact z
  · obtain ⟨⟨hs, hlt⟩, h01⟩ := hP
    change (decide (ci < 11 ∧ kf < mxNf ci) && mxFi ci kf && decide ((mx_tf ci kf).2.2.1 = "Z") && decide ((mx_tf ci kf).1 = (mxN y).cls ∧ (mxN y).name = "<init>") && decide ((mxOw y, ix, ci, kf) ∈ mxFLt)) = true at ho
    simp only [Bool.and_eq_true, decide_eq_true_eq, Bool.not_eq_true'] at ho
    obtain ⟨⟨⟨⟨⟨hci, hk⟩, hf⟩, hI⟩, hini⟩, hfl⟩ := ho
    have hal : 100 ≤ a ∧ a < 100 + mx_c h := ⟨(mx_T_lt (a := a) (by omega)).1, hlt⟩
    have hobj := mx_arr G hal.1 hal.2
    rw [mx_E_o G hs hci] at hobj
    rw [List.map_cons, List.map_cons]
    have hnar : narrow (mx_ty ci kf) (.int x) = .int x ∧ fits (mx_ty ci kf) (.int x) = true := by
      rcases mx_ty_int hci hk hf with ⟨-, e2⟩ | ⟨e1, -⟩
      · exact absurd (hI.symm.trans e2) (by decide +kernel)
      · rw [e1]; exact mx_narZ h01
    change W _ _ _ _ _ _ _ _ _ _ _ _ _ _ _ (F0 _ _ _ (.int x :: mx_rc G a :: _))
    rw [mx_rc_obj G hal.1]
    refine mx_putE (D := g_D G) (ci := ci) (C := mx_cn ci) (T := mx_tf ci) (N := mxNf ci) hx hb hts (mx_uw hci) (mx_ty ci) (mx_ty_ok hci) (mx_nm hci) hown hK.2.1 hR.2.1 hD hS (a - 100) hobj (mx_cl_get hci) kf hk (hK.w (mx_fl _ hfl)) (Or.inr ⟨hname.trans hini.2, hini.1.trans (mx_cls_ok hok)⟩) hnar.1 hnar.2 (by rw [mx_fs_len]; exact hk) hd (fun H1 locs1 hP1 hz1 hS1 => ?_)
    have z := k H1 locs1 la (mx_Rep_fi G hR hs hci hf hP1 (fun _ => hz1)) hS1 hL
    rw [hnx] at z
    exact z
  · obtain ⟨hs, hg⟩ := hP
    change (decide (ci < 11 ∧ kf < mxNf ci) && !mxFi ci kf && !(mx_tf ci kf).2.2.2 && decide ((mxOw y, ix, ci, kf) ∈ mxFLt)) = true at ho
    simp only [Bool.and_eq_true, decide_eq_true_eq, Bool.not_eq_true'] at ho
    obtain ⟨⟨⟨⟨hci, hk⟩, hf⟩, hnf⟩, hfl⟩ := ho
    have hal := mx_alc hg (a := a) (by omega)
    have hobj := mx_arr G hal.1 hal.2
    rw [mx_E_o G hs hci] at hobj
    rw [List.map_cons, List.map_cons]
    have hnar := mx_narR (mx_ty_ref hci hk hf) (mx_rc_kind G hG x)
    change W _ _ _ _ _ _ _ _ _ _ _ _ _ _ _ (F0 _ _ _ (mx_rc G x :: mx_rc G a :: _))
    rw [mx_rc_obj G hal.1]
    refine mx_putE (D := g_D G) (ci := ci) (C := mx_cn ci) (T := mx_tf ci) (N := mxNf ci) hx hb hts (mx_uw hci) (mx_ty ci) (mx_ty_ok hci) (mx_nm hci) hown hK.2.1 hR.2.1 hD hS (a - 100) hobj (mx_cl_get hci) kf hk (hK.w (mx_fl _ hfl)) (Or.inl hnf) hnar.1 hnar.2 (by rw [mx_fs_len]; exact hk) hd (fun H1 locs1 hP1 hz1 hS1 => ?_)
    have z := k H1 locs1 la (mx_Rep_fr G hR hs hci hf hP1 (fun _ => hz1)) hS1 hL
    rw [hnx] at z
    exact z
  · obtain ⟨hs, hlt⟩ := hP
    change (decide (ci < 11 ∧ kf < mxNf ci) && !mxFi ci kf && decide ((mx_tf ci kf).1 = (mxN y).cls ∧ (mxN y).name = "<init>") && decide ((mxOw y, ix, ci, kf) ∈ mxFLt)) = true at ho
    simp only [Bool.and_eq_true, decide_eq_true_eq, Bool.not_eq_true'] at ho
    obtain ⟨⟨⟨⟨hci, hk⟩, hf⟩, hini⟩, hfl⟩ := ho
    have hal : 100 ≤ a ∧ a < 100 + mx_c h := ⟨(mx_T_lt (a := a) (by omega)).1, hlt⟩
    have hobj := mx_arr G hal.1 hal.2
    rw [mx_E_o G hs hci] at hobj
    rw [List.map_cons, List.map_cons]
    have hnar := mx_narR (mx_ty_ref hci hk hf) (mx_rc_kind G hG x)
    change W _ _ _ _ _ _ _ _ _ _ _ _ _ _ _ (F0 _ _ _ (mx_rc G x :: mx_rc G a :: _))
    rw [mx_rc_obj G hal.1]
    refine mx_putE (D := g_D G) (ci := ci) (C := mx_cn ci) (T := mx_tf ci) (N := mxNf ci) hx hb hts (mx_uw hci) (mx_ty ci) (mx_ty_ok hci) (mx_nm hci) hown hK.2.1 hR.2.1 hD hS (a - 100) hobj (mx_cl_get hci) kf hk (hK.w (mx_fl _ hfl)) (Or.inr ⟨hname.trans hini.2, hini.1.trans (mx_cls_ok hok)⟩) hnar.1 hnar.2 (by rw [mx_fs_len]; exact hk) hd (fun H1 locs1 hP1 hz1 hS1 => ?_)
    have z := k H1 locs1 la (mx_Rep_fr G hR hs hci hf hP1 (fun _ => hz1)) hS1 hL
    rw [hnx] at z
    exact z
end SNC
