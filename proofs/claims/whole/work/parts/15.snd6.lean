/-! SOUNDNESS, 6: rows -/
theorem mx_T_kind (a : Nat) : (mxT a).1 ≤ 54 := by
  by_cases h : (mxT a).1 = 0
  · omega
  · obtain ⟨h1, h2⟩ := mx_T_lt h
    unfold mxT
    rw [if_neg (by omega)]
    have hall : ∀ q ∈ mxTL, q.1 ≤ 54 := by decide +kernel
    have hlen : mxTL.length = 292 := by decide +kernel
    rw [List.getD_eq_getElem?_getD, List.getElem?_eq_getElem (show a - 100 < mxTL.length by omega)]
    exact hall _ (List.getElem_mem _)
theorem mx_asg_self (vm : Vm) (c : ClassId) : vm.assignable c c = true := by
  show vm.assignableAux (255 + 1) c c = true
  rw [Vm.assignableAux]
  simp only [beq_self_eq_true, Bool.true_or]
/-- a Word lies in a row of Words -/
theorem mx_asg_word {G : mxGl} {s : State} (hK : mx_K G s) {cW : ClassId} (h : s.vm.findClass "StoneBacks$Word" = some cW) : s.vm.assignable cW cW = true := by
  exact mx_asg_self s.vm cW
section SND6
variable {G : mxGl} {p : Program} {l : Launch} {e : Env} {R : Room} {s : State} {m : MethodId} {args : Array Value} {below : List Frame} {meth : Method} {c : Code} {y : Nat} {h0 : mxH} {Q : State → Prop}
set_option maxHeartbeats 4000000 in
theorem mx_sia (C : mx_Cx G p l s m meth c y) {i pc len : Nat} {r : List Nat} {v : Int32} {ls : mxLs} {st st' : List Value} {h h' : mxH} {P : Prop} (he : (mxC y)[i]? = some (pc, .iaload, len, r, v)) (hB : mx_ia r st h = some (st', h', P)) (hP : P) (hRf : 8 ≤ R.frames) (hRl : 128 ≤ R.locals) (hm1 : mx_cs h0 ≤ mx_cs h) (hm2 : mx_n h0 ≤ mx_n h) (hc1 : mx_cs h' - mx_cs h0 ≤ R.cells) (hc2 : mx_n h' - mx_n h0 ≤ R.slots)
    (k : mx_WW G p l e R s m args below meth c y h0 Q (i + 1) ls st' h') : mx_WW G p l e R s m args below meth c y h0 Q i ls st h := by
  obtain ⟨hx, hb, hml, hown, hK, hST, hlocks, hret, hname, hG, hl, htab, hok, hy⟩ := C
  obtain ⟨hd, hpc, hn, ho⟩ := mx_ent hok he
  intro H locs la hR hS hL
  rw [hpc]
  have hts : ∀ w ∈ mxAll, w.before args s = true := fun w hw => hK.w hw
  have hD := mx_ws_D G h
  obtain ⟨rfl, hnx⟩ := hn 1 rfl
  rcases mx_ia_inv hB with ⟨ix, a, t, rfl, rfl, rfl, rfl, rfl⟩ | ⟨ix, a, t, rfl, rfl, rfl, rfl, rfl⟩
  · obtain ⟨⟨hs, hg⟩, hin⟩ := hP
    have hal := mx_alc hg (a := a) (by omega)
    have hobj := mx_arr G hal.1 hal.2
    rw [mx_E_i G hs] at hobj
    change W _ _ _ _ _ _ _ _ _ _ _ _ _ _ _ (F0 _ _ _ (.int ix :: mx_rc G a :: _))
    rw [mx_rc_obj G hal.1]
    have z := k H locs la hR hS hL
    rw [hnx] at z
    exact va_iald hx hb hK.2.1 hR.2.1 (a - 100) 0 hobj rfl hin hd z
  · obtain ⟨rfl, hin⟩ := hP
    rw [hR.2.2.1.1] at hin
    have hlt : ix.toNatClampNeg < g_L G := Nat.not_le.mp fun q => hin (Or.inr q)
    have z := k H locs la hR hS hL
    rw [hnx] at z
    change W _ _ _ _ _ _ _ _ _ _ _ _ _ _ _ (F0 _ _ _ (.int (mx_i h 1 ix.toNatClampNeg) :: _)) at z
    rw [hR.2.2.1.2 _ hlt] at z
    change W _ _ _ _ _ _ _ _ _ _ _ _ _ _ _ (F0 _ _ _ (.int ix :: mx_rc G 1 :: _))
    rw [mx_rc_const G (by omega) (by omega) (by omega)]
    exact va_sld hx hb hST.2.2.2.2.2.2.1 (Nat.lt_of_lt_of_le hST.2.2.2.2.2.2.2.1 hST.2.2.2.2.2.2.2.2) (Nat.not_le.mpr hST.2.2.2.2.2.2.2.1) hS hin hd z
set_option maxHeartbeats 4000000 in
theorem mx_sis (C : mx_Cx G p l s m meth c y) {i pc len : Nat} {r : List Nat} {v : Int32} {ls : mxLs} {st st' : List Value} {h h' : mxH} {P : Prop} (he : (mxC y)[i]? = some (pc, .iastore, len, r, v)) (hB : mx_is r st h = some (st', h', P)) (hP : P) (hRf : 8 ≤ R.frames) (hRl : 128 ≤ R.locals) (hm1 : mx_cs h0 ≤ mx_cs h) (hm2 : mx_n h0 ≤ mx_n h) (hc1 : mx_cs h' - mx_cs h0 ≤ R.cells) (hc2 : mx_n h' - mx_n h0 ≤ R.slots)
    (k : mx_WW G p l e R s m args below meth c y h0 Q (i + 1) ls st' h') : mx_WW G p l e R s m args below meth c y h0 Q i ls st h := by
  obtain ⟨hx, hb, hml, hown, hK, hST, hlocks, hret, hname, hG, hl, htab, hok, hy⟩ := C
  obtain ⟨hd, hpc, hn, ho⟩ := mx_ent hok he
  intro H locs la hR hS hL
  rw [hpc]
  have hts : ∀ w ∈ mxAll, w.before args s = true := fun w hw => hK.w hw
  have hD := mx_ws_D G h
  obtain ⟨rfl, hnx⟩ := hn 1 rfl
  rcases mx_is_inv hB with ⟨x, ix, a, t, rfl, rfl, rfl, rfl, rfl⟩ | ⟨x, ix, a, t, rfl, rfl, rfl, rfl, rfl⟩
  · obtain ⟨⟨hs, hg⟩, hin⟩ := hP
    have hal := mx_alc hg (a := a) (by omega)
    have hobj := mx_arr G hal.1 hal.2
    rw [mx_E_i G hs] at hobj
    change W _ _ _ _ _ _ _ _ _ _ _ _ _ _ _ (F0 _ _ _ (.int x :: .int ix :: mx_rc G a :: _))
    rw [mx_rc_obj G hal.1]
    refine mx_iastE hx hb hK.2.1 hR.2.1 hD hS (a - 100) 0 hobj rfl hin hd (fun H1 locs1 hP1 hz1 hS1 => ?_)
    have z := k H1 locs1 la (mx_Rep_ai G hR hs hP1 (fun _ => hz1)) hS1 hL
    rw [hnx] at z
    exact z
  · obtain ⟨⟨hs, hlt⟩, hin⟩ := hP
    have hal : 100 ≤ a ∧ a < 100 + mx_c h := ⟨(mx_T_lt (a := a) (by omega)).1, hlt⟩
    have hobj := mx_arr G hal.1 hal.2
    rw [mx_E_i G hs] at hobj
    change W _ _ _ _ _ _ _ _ _ _ _ _ _ _ _ (F0 _ _ _ (.int x :: .int ix :: mx_rc G a :: _))
    rw [mx_rc_obj G hal.1]
    refine mx_iastE hx hb hK.2.1 hR.2.1 hD hS (a - 100) 0 hobj rfl hin hd (fun H1 locs1 hP1 hz1 hS1 => ?_)
    have z := k H1 locs1 la (mx_Rep_ai G hR hs hP1 (fun _ => hz1)) hS1 hL
    rw [hnx] at z
    exact z
set_option maxHeartbeats 4000000 in
theorem mx_sba (C : mx_Cx G p l s m meth c y) {i pc len : Nat} {r : List Nat} {v : Int32} {ls : mxLs} {st st' : List Value} {h h' : mxH} {P : Prop} (he : (mxC y)[i]? = some (pc, .baload, len, r, v)) (hB : mx_ba r st h = some (st', h', P)) (hP : P) (hRf : 8 ≤ R.frames) (hRl : 128 ≤ R.locals) (hm1 : mx_cs h0 ≤ mx_cs h) (hm2 : mx_n h0 ≤ mx_n h) (hc1 : mx_cs h' - mx_cs h0 ≤ R.cells) (hc2 : mx_n h' - mx_n h0 ≤ R.slots)
    (k : mx_WW G p l e R s m args below meth c y h0 Q (i + 1) ls st' h') : mx_WW G p l e R s m args below meth c y h0 Q i ls st h := by
  obtain ⟨hx, hb, hml, hown, hK, hST, hlocks, hret, hname, hG, hl, htab, hok, hy⟩ := C
  obtain ⟨hd, hpc, hn, ho⟩ := mx_ent hok he
  intro H locs la hR hS hL
  rw [hpc]
  have hts : ∀ w ∈ mxAll, w.before args s = true := fun w hw => hK.w hw
  have hD := mx_ws_D G h
  obtain ⟨rfl, hnx⟩ := hn 1 rfl
  rcases mx_ba_inv hB with ⟨ix, a, t, rfl, rfl, rfl, rfl, rfl⟩ | ⟨ix, a, t, rfl, rfl, rfl, rfl, rfl⟩
  · obtain ⟨⟨hs, hg⟩, hin⟩ := hP
    have hal := mx_alc hg (a := a) (by omega)
    have hobj := mx_arr G hal.1 hal.2
    rw [mx_E_b G hs] at hobj
    change W _ _ _ _ _ _ _ _ _ _ _ _ _ _ _ (F0 _ _ _ (.int ix :: mx_rc G a :: _))
    rw [mx_rc_obj G hal.1]
    have z := k H locs la hR hS hL
    rw [hnx] at z
    exact va_bald hx hb hK.2.1 hR.2.1 (a - 100) 1 hobj rfl hin hd z
  · obtain ⟨ha, hin⟩ := hP
    obtain ⟨j, rfl, hj9⟩ := mx_odA ha
    have z := k H locs la hR hS hL
    rw [hnx] at z
    change W _ _ _ _ _ _ _ _ _ _ _ _ _ _ _ (F0 _ _ _ (.int ix :: mx_rc G (31 + 2 * j) :: _))
    rw [mx_rc_const G (by omega) (by omega) (by omega)]
    exact va_tb hx hb (hST.2.2.2.1 j (by omega)).2.2.2 hS hin rfl hd z
set_option maxHeartbeats 4000000 in
theorem mx_sbs (C : mx_Cx G p l s m meth c y) {i pc len : Nat} {r : List Nat} {v : Int32} {ls : mxLs} {st st' : List Value} {h h' : mxH} {P : Prop} (he : (mxC y)[i]? = some (pc, .bastore, len, r, v)) (hB : mx_bs st h = some (st', h', P)) (hP : P) (hRf : 8 ≤ R.frames) (hRl : 128 ≤ R.locals) (hm1 : mx_cs h0 ≤ mx_cs h) (hm2 : mx_n h0 ≤ mx_n h) (hc1 : mx_cs h' - mx_cs h0 ≤ R.cells) (hc2 : mx_n h' - mx_n h0 ≤ R.slots)
    (k : mx_WW G p l e R s m args below meth c y h0 Q (i + 1) ls st' h') : mx_WW G p l e R s m args below meth c y h0 Q i ls st h := by
  obtain ⟨hx, hb, hml, hown, hK, hST, hlocks, hret, hname, hG, hl, htab, hok, hy⟩ := C
  obtain ⟨hd, hpc, hn, ho⟩ := mx_ent hok he
  intro H locs la hR hS hL
  rw [hpc]
  have hts : ∀ w ∈ mxAll, w.before args s = true := fun w hw => hK.w hw
  have hD := mx_ws_D G h
  obtain ⟨rfl, hnx⟩ := hn 1 rfl
  rcases mx_bs_inv hB with ⟨x, ix, a, t, rfl, rfl, rfl, rfl⟩
  · obtain ⟨⟨hs, hg⟩, hin⟩ := hP
    have hal := mx_alc hg (a := a) (by omega)
    have hobj := mx_arr G hal.1 hal.2
    rw [mx_E_b G hs] at hobj
    change W _ _ _ _ _ _ _ _ _ _ _ _ _ _ _ (F0 _ _ _ (.int x :: .int ix :: mx_rc G a :: _))
    rw [mx_rc_obj G hal.1]
    refine va_bast hx hb hK.2.1 hR.2.1 hD hS (a - 100) 1 hobj rfl hin hd (fun H1 locs1 hP1 hD1 hS1 => ?_)
    rw [vp_nar_byte] at hP1
    have z := k H1 locs1 la (mx_Rep_ab G hR hs hP1 (fun q => absurd hg.1 (by omega))) hS1 hL
    rw [hnx] at z
    exact z
set_option maxHeartbeats 4000000 in
theorem mx_sla (C : mx_Cx G p l s m meth c y) {i pc len : Nat} {r : List Nat} {v : Int32} {ls : mxLs} {st st' : List Value} {h h' : mxH} {P : Prop} (he : (mxC y)[i]? = some (pc, .laload, len, r, v)) (hB : mx_la st h = some (st', h', P)) (hP : P) (hRf : 8 ≤ R.frames) (hRl : 128 ≤ R.locals) (hm1 : mx_cs h0 ≤ mx_cs h) (hm2 : mx_n h0 ≤ mx_n h) (hc1 : mx_cs h' - mx_cs h0 ≤ R.cells) (hc2 : mx_n h' - mx_n h0 ≤ R.slots)
    (k : mx_WW G p l e R s m args below meth c y h0 Q (i + 1) ls st' h') : mx_WW G p l e R s m args below meth c y h0 Q i ls st h := by
  obtain ⟨hx, hb, hml, hown, hK, hST, hlocks, hret, hname, hG, hl, htab, hok, hy⟩ := C
  obtain ⟨hd, hpc, hn, ho⟩ := mx_ent hok he
  intro H locs la hR hS hL
  rw [hpc]
  have hts : ∀ w ∈ mxAll, w.before args s = true := fun w hw => hK.w hw
  have hD := mx_ws_D G h
  obtain ⟨rfl, hnx⟩ := hn 1 rfl
  rcases mx_la_inv hB with ⟨ix, a, t, rfl, rfl, rfl, rfl⟩
  · obtain ⟨⟨hs, hg⟩, hin⟩ := hP
    have hal := mx_alc hg (a := a) (by omega)
    have hobj := mx_arr G hal.1 hal.2
    rw [mx_E_l G hs] at hobj
    change W _ _ _ _ _ _ _ _ _ _ _ _ _ _ _ (F0 _ _ _ (.int ix :: mx_rc G a :: _))
    rw [mx_rc_obj G hal.1]
    have z := k H locs la hR hS hL
    rw [hnx] at z
    exact va_lald hx hb hK.2.1 hR.2.1 (a - 100) 2 hobj rfl hin hd z
set_option maxHeartbeats 4000000 in
theorem mx_sls (C : mx_Cx G p l s m meth c y) {i pc len : Nat} {r : List Nat} {v : Int32} {ls : mxLs} {st st' : List Value} {h h' : mxH} {P : Prop} (he : (mxC y)[i]? = some (pc, .lastore, len, r, v)) (hB : mx_ls st h = some (st', h', P)) (hP : P) (hRf : 8 ≤ R.frames) (hRl : 128 ≤ R.locals) (hm1 : mx_cs h0 ≤ mx_cs h) (hm2 : mx_n h0 ≤ mx_n h) (hc1 : mx_cs h' - mx_cs h0 ≤ R.cells) (hc2 : mx_n h' - mx_n h0 ≤ R.slots)
    (k : mx_WW G p l e R s m args below meth c y h0 Q (i + 1) ls st' h') : mx_WW G p l e R s m args below meth c y h0 Q i ls st h := by
  obtain ⟨hx, hb, hml, hown, hK, hST, hlocks, hret, hname, hG, hl, htab, hok, hy⟩ := C
  obtain ⟨hd, hpc, hn, ho⟩ := mx_ent hok he
  intro H locs la hR hS hL
  rw [hpc]
  have hts : ∀ w ∈ mxAll, w.before args s = true := fun w hw => hK.w hw
  have hD := mx_ws_D G h
  obtain ⟨rfl, hnx⟩ := hn 1 rfl
  rcases mx_ls_inv hB with ⟨x, ix, a, t, rfl, rfl, rfl, rfl⟩
  · obtain ⟨⟨hs, hg⟩, hin⟩ := hP
    have hal := mx_alc hg (a := a) (by omega)
    have hobj := mx_arr G hal.1 hal.2
    rw [mx_E_l G hs] at hobj
    change W _ _ _ _ _ _ _ _ _ _ _ _ _ _ _ (F0 _ _ _ (.long x :: .int ix :: mx_rc G a :: _))
    rw [mx_rc_obj G hal.1]
    refine va_last hx hb hK.2.1 hR.2.1 hD hS (a - 100) 2 hobj rfl hin hd (fun H1 locs1 hP1 hD1 hS1 => ?_)
    have z := k H1 locs1 la (mx_Rep_al G hR hs hP1 (fun q => absurd hg.1 (by omega))) hS1 hL
    rw [hnx] at z
    exact z
set_option maxHeartbeats 4000000 in
theorem mx_saa (C : mx_Cx G p l s m meth c y) {i pc len : Nat} {r : List Nat} {v : Int32} {ls : mxLs} {st st' : List Value} {h h' : mxH} {P : Prop} (he : (mxC y)[i]? = some (pc, .aaload, len, r, v)) (hB : mx_aa r st h = some (st', h', P)) (hP : P) (hRf : 8 ≤ R.frames) (hRl : 128 ≤ R.locals) (hm1 : mx_cs h0 ≤ mx_cs h) (hm2 : mx_n h0 ≤ mx_n h) (hc1 : mx_cs h' - mx_cs h0 ≤ R.cells) (hc2 : mx_n h' - mx_n h0 ≤ R.slots)
    (k : mx_WW G p l e R s m args below meth c y h0 Q (i + 1) ls st' h') : mx_WW G p l e R s m args below meth c y h0 Q i ls st h := by
  obtain ⟨hx, hb, hml, hown, hK, hST, hlocks, hret, hname, hG, hl, htab, hok, hy⟩ := C
  obtain ⟨hd, hpc, hn, ho⟩ := mx_ent hok he
  intro H locs la hR hS hL
  rw [hpc]
  have hts : ∀ w ∈ mxAll, w.before args s = true := fun w hw => hK.w hw
  have hD := mx_ws_D G h
  obtain ⟨rfl, hnx⟩ := hn 1 rfl
  rcases mx_aa_inv hB with ⟨ix, a, t, rfl, rfl, rfl, rfl, rfl⟩ | ⟨ix, a, t, rfl, rfl, rfl, rfl, rfl⟩
  · obtain ⟨⟨hs0, hg⟩, hin⟩ := hP
    have hal := mx_alc hg (a := a) (by omega)
    have z := k H locs la hR hS hL
    rw [hnx] at z
    change W _ _ _ _ _ _ _ _ _ _ _ _ _ _ _ (F0 _ _ _ (mx_rc G (mx_r h a ix.toNatClampNeg) :: _)) at z
    rw [← mx_ro_rf G hG] at z
    have hobj := mx_arr G hal.1 hal.2
    change W _ _ _ _ _ _ _ _ _ _ _ _ _ _ _ (F0 _ _ _ (.int ix :: mx_rc G a :: _))
    rw [mx_rc_obj G hal.1]
    rcases hs0 with hs | hs
    · rw [mx_E_w G hs] at hobj
      exact va_aldq hx hb hK.2.1 hR.2.1 (a - 100) 3 hobj rfl hin hd z
    · rw [mx_E_v G hs] at hobj
      exact va_aldq hx hb hK.2.1 hR.2.1 (a - 100) 4 hobj rfl hin hd z
  · obtain ⟨rfl, hin⟩ := hP
    have hlt : ix.toNatClampNeg < 26 := Nat.not_le.mp fun q => hin (Or.inr q)
    have z := k H locs la hR hS hL
    rw [hnx] at z
    change W _ _ _ _ _ _ _ _ _ _ _ _ _ _ _ (F0 _ _ _ (mx_rc G (3 + ix.toNatClampNeg) :: _)) at z
    rw [mx_rc_const G (by omega) (by omega) (by omega)] at z
    change W _ _ _ _ _ _ _ _ _ _ _ _ _ _ _ (F0 _ _ _ (.int ix :: mx_rc G 2 :: _))
    rw [mx_rc_const G (by omega) (by omega) (by omega)]
    exact mx_ta hx hb hST.2.2.1.2 hS hin rfl hd z
set_option maxHeartbeats 4000000 in
theorem mx_sas (C : mx_Cx G p l s m meth c y) {i pc len : Nat} {r : List Nat} {v : Int32} {ls : mxLs} {st st' : List Value} {h h' : mxH} {P : Prop} (he : (mxC y)[i]? = some (pc, .aastore, len, r, v)) (hB : mx_as r st h = some (st', h', P)) (hP : P) (hRf : 8 ≤ R.frames) (hRl : 128 ≤ R.locals) (hm1 : mx_cs h0 ≤ mx_cs h) (hm2 : mx_n h0 ≤ mx_n h) (hc1 : mx_cs h' - mx_cs h0 ≤ R.cells) (hc2 : mx_n h' - mx_n h0 ≤ R.slots)
    (k : mx_WW G p l e R s m args below meth c y h0 Q (i + 1) ls st' h') : mx_WW G p l e R s m args below meth c y h0 Q i ls st h := by
  obtain ⟨hx, hb, hml, hown, hK, hST, hlocks, hret, hname, hG, hl, htab, hok, hy⟩ := C
  obtain ⟨hd, hpc, hn, ho⟩ := mx_ent hok he
  intro H locs la hR hS hL
  rw [hpc]
  have hts : ∀ w ∈ mxAll, w.before args s = true := fun w hw => hK.w hw
  have hD := mx_ws_D G h
  obtain ⟨rfl, hnx⟩ := hn 1 rfl
  rcases mx_as_inv hB with ⟨q, ix, a, t, rfl, rfl, rfl, rfl, rfl⟩ | ⟨q, ix, a, t, rfl, rfl, rfl, rfl, rfl⟩
  · obtain ⟨⟨⟨hs, hg⟩, hq⟩, hin⟩ := hP
    have hal := mx_alc hg (a := a) (by omega)
    have hobj := mx_arr G hal.1 hal.2
    rw [mx_E_w G hs] at hobj
    change W _ _ _ _ _ _ _ _ _ _ _ _ _ _ _ (F0 _ _ _ (mx_rc G q :: .int ix :: mx_rc G a :: _))
    rw [mx_rc_obj G hal.1]
    rcases hq with rfl | hq
    · rw [mx_rc_null G]
      refine va_astqN hx hb hK.2.1 hR.2.1 hD hS (a - 100) 3 hobj rfl hin hd (fun H1 locs1 hP1 hD1 hS1 => ?_)
      have z := k H1 locs1 la (mx_Rep_aw G hR hs (mx_ro_null G) hP1 (fun q => absurd hg.1 (by omega))) hS1 hL
      rw [hnx] at z
      exact z
    · obtain ⟨j, rfl, hj9⟩ := mx_wdA hq
      have hrc := mx_rc_const G (n := 3 + j) (by omega) (by omega) (by omega)
      rw [hrc]
      have hw := (hST.1 j (by omega)).2.1
      have hany : va_Any "StoneBacks$Word" s H (g_a G (3 + j)) := by
        obtain ⟨cell, c1, c2, c3, c4⟩ := hw
        obtain ⟨kC, hkC, -⟩ := Vm.findClass_spec c3
        refine ⟨cell, by rw [hS.2.1 _ (Array.getElem?_eq_some_iff.mp c1).1 c4]; exact c1, c2, ⟨kC, hkC⟩, fun comp hc => ?_⟩
        cases Option.some.inj (hc.symm.trans c3)
        exact mx_asg_word hK c3
      refine va_astqM hx hb hK.2.1 hR.2.1 hD hS (a - 100) 3 hobj rfl hany hin hd (fun H1 locs1 hP1 hD1 hS1 => ?_)
      have z := k H1 locs1 la (mx_Rep_aw G hR hs (mx_ro_of G hrc) hP1 (fun q => absurd hg.1 (by omega))) hS1 hL
      rw [hnx] at z
      exact z
  · obtain ⟨⟨hs, hlt⟩, ⟨hsq, hql⟩, hin⟩ := hP
    have hal : 100 ≤ a ∧ a < 100 + mx_c h := ⟨(mx_T_lt (a := a) (by omega)).1, hlt⟩
    have hq0 := (mx_T_lt (a := q) (by omega)).1
    have hobj := mx_arr G hal.1 hal.2
    rw [mx_E_v G hs] at hobj
    change W _ _ _ _ _ _ _ _ _ _ _ _ _ _ _ (F0 _ _ _ (mx_rc G q :: .int ix :: mx_rc G a :: _))
    rw [mx_rc_obj G hal.1]
    have hobq := mx_arr G hq0 hql
    rw [mx_E_o G (ci := 8) hsq (by omega)] at hobq
    rw [mx_rc_obj G hq0]
    refine mx_aastE hx hb hK.2.1 hR.2.1 hD hS (a - 100) 4 (q - 100) 8 hobj rfl hobq rfl hin hd (fun H1 locs1 hP1 hz1 hS1 => ?_)
    have z := k H1 locs1 la (mx_Rep_av G hR hs (mx_ro_of G (mx_rc_obj G hq0)) hP1 (fun _ => hz1)) hS1 hL
    rw [hnx] at z
    exact z
set_option maxHeartbeats 4000000 in
theorem mx_sal (C : mx_Cx G p l s m meth c y) {i pc len : Nat} {r : List Nat} {v : Int32} {ls : mxLs} {st st' : List Value} {h h' : mxH} {P : Prop} (he : (mxC y)[i]? = some (pc, .arraylength, len, r, v)) (hB : mx_al r st h = some (st', h', P)) (hP : P) (hRf : 8 ≤ R.frames) (hRl : 128 ≤ R.locals) (hm1 : mx_cs h0 ≤ mx_cs h) (hm2 : mx_n h0 ≤ mx_n h) (hc1 : mx_cs h' - mx_cs h0 ≤ R.cells) (hc2 : mx_n h' - mx_n h0 ≤ R.slots)
    (k : mx_WW G p l e R s m args below meth c y h0 Q (i + 1) ls st' h') : mx_WW G p l e R s m args below meth c y h0 Q i ls st h := by
  obtain ⟨hx, hb, hml, hown, hK, hST, hlocks, hret, hname, hG, hl, htab, hok, hy⟩ := C
  obtain ⟨hd, hpc, hn, ho⟩ := mx_ent hok he
  intro H locs la hR hS hL
  rw [hpc]
  have hts : ∀ w ∈ mxAll, w.before args s = true := fun w hw => hK.w hw
  have hD := mx_ws_D G h
  obtain ⟨rfl, hnx⟩ := hn 1 rfl
  rcases mx_al_inv hB with ⟨a, t, rfl, rfl, rfl, rfl, rfl⟩ | ⟨a, t, rfl, rfl, rfl, rfl, rfl⟩ | ⟨a, t, rfl, rfl, rfl, rfl, rfl⟩ | ⟨a, t, rfl, rfl, rfl, rfl, rfl⟩
  · obtain ⟨h50, hg⟩ := hP
    have hal := mx_alc hg (a := a) (by omega)
    have z := k H locs la hR hS hL
    rw [hnx] at z
    have hobj := mx_arr G hal.1 hal.2
    change W _ _ _ _ _ _ _ _ _ _ _ _ _ _ _ (F0 _ _ _ (mx_rc G a :: _))
    rw [mx_rc_obj G hal.1]
    have h55 := mx_T_kind a
    rcases (show (mxT a).1 = 50 ∨ (mxT a).1 = 51 ∨ (mxT a).1 = 52 ∨ (mxT a).1 = 53 ∨ (mxT a).1 = 54 by omega) with hs | hs | hs | hs | hs
    · rw [mx_E_i G hs] at hobj
      exact va_alen hx hb hK.2.1 hR.2.1 (a - 100) 0 hobj rfl rfl hd z
    · rw [mx_E_b G hs] at hobj
      exact va_alen hx hb hK.2.1 hR.2.1 (a - 100) 1 hobj rfl rfl hd z
    · rw [mx_E_l G hs] at hobj
      exact va_alen hx hb hK.2.1 hR.2.1 (a - 100) 2 hobj rfl rfl hd z
    · rw [mx_E_w G hs] at hobj
      exact va_alen hx hb hK.2.1 hR.2.1 (a - 100) 3 hobj rfl rfl hd z
    · rw [mx_E_v G hs] at hobj
      exact va_alen hx hb hK.2.1 hR.2.1 (a - 100) 4 hobj rfl rfl hd z
  · obtain rfl := hP
    have z := k H locs la hR hS hL
    rw [hnx] at z
    change W _ _ _ _ _ _ _ _ _ _ _ _ _ _ _ (F0 _ _ _ (.int (nI (mx_r h 1 0)) :: _)) at z
    rw [hR.2.2.1.1] at z
    change W _ _ _ _ _ _ _ _ _ _ _ _ _ _ _ (F0 _ _ _ (mx_rc G 1 :: _))
    rw [mx_rc_const G (by omega) (by omega) (by omega)]
    exact va_slen hx hb hST.2.2.2.2.2.2.1 (Nat.lt_of_lt_of_le hST.2.2.2.2.2.2.2.1 hST.2.2.2.2.2.2.2.2) (Nat.not_le.mpr hST.2.2.2.2.2.2.2.1) hS hd z
  · obtain rfl := hP
    have z := k H locs la hR hS hL
    rw [hnx] at z
    change W _ _ _ _ _ _ _ _ _ _ _ _ _ _ _ (F0 _ _ _ (mx_rc G 2 :: _))
    rw [mx_rc_const G (by omega) (by omega) (by omega)]
    exact va_tlen hx hb hST.2.2.1.2 hS rfl hd z
  · obtain ⟨j, rfl, hj9⟩ := mx_odA hP
    have z := k H locs la hR hS hL
    rw [hnx] at z
    change W _ _ _ _ _ _ _ _ _ _ _ _ _ _ _ (F0 _ _ _ (mx_rc G (31 + 2 * j) :: _))
    rw [mx_rc_const G (by omega) (by omega) (by omega)]
    exact va_tlen hx hb (hST.2.2.2.1 j (by omega)).2.2.2 hS rfl hd z
set_option maxHeartbeats 4000000 in
theorem mx_sdv (C : mx_Cx G p l s m meth c y) {i pc len : Nat} {r : List Nat} {v : Int32} {ls : mxLs} {st st' : List Value} {h h' : mxH} {P : Prop} (he : (mxC y)[i]? = some (pc, .idiv, len, r, v)) (hB : mx_dv st h = some (st', h', P)) (hP : P) (hRf : 8 ≤ R.frames) (hRl : 128 ≤ R.locals) (hm1 : mx_cs h0 ≤ mx_cs h) (hm2 : mx_n h0 ≤ mx_n h) (hc1 : mx_cs h' - mx_cs h0 ≤ R.cells) (hc2 : mx_n h' - mx_n h0 ≤ R.slots)
    (k : mx_WW G p l e R s m args below meth c y h0 Q (i + 1) ls st' h') : mx_WW G p l e R s m args below meth c y h0 Q i ls st h := by
  obtain ⟨hx, hb, hml, hown, hK, hST, hlocks, hret, hname, hG, hl, htab, hok, hy⟩ := C
  obtain ⟨hd, hpc, hn, ho⟩ := mx_ent hok he
  intro H locs la hR hS hL
  rw [hpc]
  have hts : ∀ w ∈ mxAll, w.before args s = true := fun w hw => hK.w hw
  have hD := mx_ws_D G h
  obtain ⟨rfl, hnx⟩ := hn 1 rfl
  rcases mx_dv_inv hB with ⟨y1, x1, t, rfl, rfl, rfl, rfl⟩
  · have z := k H locs la hR hS hL
    rw [hnx] at z
    exact lv_idiv hx hb hd hP z
set_option maxHeartbeats 4000000 in
theorem mx_srm (C : mx_Cx G p l s m meth c y) {i pc len : Nat} {r : List Nat} {v : Int32} {ls : mxLs} {st st' : List Value} {h h' : mxH} {P : Prop} (he : (mxC y)[i]? = some (pc, .irem, len, r, v)) (hB : mx_rm st h = some (st', h', P)) (hP : P) (hRf : 8 ≤ R.frames) (hRl : 128 ≤ R.locals) (hm1 : mx_cs h0 ≤ mx_cs h) (hm2 : mx_n h0 ≤ mx_n h) (hc1 : mx_cs h' - mx_cs h0 ≤ R.cells) (hc2 : mx_n h' - mx_n h0 ≤ R.slots)
    (k : mx_WW G p l e R s m args below meth c y h0 Q (i + 1) ls st' h') : mx_WW G p l e R s m args below meth c y h0 Q i ls st h := by
  obtain ⟨hx, hb, hml, hown, hK, hST, hlocks, hret, hname, hG, hl, htab, hok, hy⟩ := C
  obtain ⟨hd, hpc, hn, ho⟩ := mx_ent hok he
  intro H locs la hR hS hL
  rw [hpc]
  have hts : ∀ w ∈ mxAll, w.before args s = true := fun w hw => hK.w hw
  have hD := mx_ws_D G h
  obtain ⟨rfl, hnx⟩ := hn 1 rfl
  rcases mx_rm_inv hB with ⟨y1, x1, t, rfl, rfl, rfl, rfl⟩
  · have z := k H locs la hR hS hL
    rw [hnx] at z
    exact lv_irem hx hb hd hP z
end SND6
