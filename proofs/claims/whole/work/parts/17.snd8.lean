/-! SOUNDNESS, 8: what is made; calls that are rows of the kit -/
theorem mx_T_len (a : Nat) : (mxT a).2 ≤ 5000 := by
  by_cases h1 : a < 100
  · unfold mxT; rw [if_pos h1]; exact Nat.zero_le _
  · unfold mxT
    rw [if_neg h1]
    have hall : ∀ q ∈ mxTL, q.2 ≤ 5000 := by decide +kernel
    rw [List.getD_eq_getElem?_getD]
    cases hq : mxTL[a - 100]? with
    | none => exact Nat.zero_le _
    | some q => exact hall q (List.mem_of_getElem? hq)
theorem mx_mk_ne (h : mxH) (n : Nat) {a : Nat} (ha : a ≠ 100 + mx_c h) (G : mxGl) : mx_E G (mx_mk h n) a = mx_E G h a := mx_E_congr G (mx_rw_ne (mx_i h) _ ha) (mx_rw_ne (mx_r h) _ ha) (mx_rw_ne (mx_l h) _ ha)
theorem mx_Rep_mk (G : mxGl) {h : mxH} {H H1 : Heap} {n : Nat} (hR : mx_Rep G h H) (hlt : mx_c h < 292) (hz : H1.size = H.size + 1) (ho : ∀ q, q < H.size → H1[q]? = H[q]?) (hE : va_at (g_D G) vwCl (g_N G + mx_c h, mx_E G (mx_mk h n) (100 + mx_c h)) H1) : mx_Rep G (mx_mk h n) H1 := by
  obtain ⟨r1, r2, r3, r4⟩ := hR
  have hcm : mx_c (mx_mk h n) = mx_c h + 1 := rfl
  have hr1 : mx_r (mx_mk h n) 1 = mx_r h 1 := mx_rw_ne (mx_r h) _ (show 1 ≠ 100 + mx_c h by omega)
  have hi1 : mx_i (mx_mk h n) 1 = mx_i h 1 := mx_rw_ne (mx_i h) _ (show 1 ≠ 100 + mx_c h by omega)
  refine ⟨fun _ => by rw [hcm, hz, r1 hlt]; omega, ?_, ⟨by rw [hr1]; exact r3.1, fun j hj => by rw [hi1]; exact r3.2 j hj⟩, by rw [hcm]; omega⟩
  rw [← mx_ws_push G (h := h) (h' := mx_mk h n) hcm rfl (fun j hj => mx_mk_ne h n (by omega) G)]
  refine va_P.app (r2.kept (fun k q hk => ho q.1 ((r2 k q hk).lt))) (fun k q hk => ?_)
  have hk0 : k < 1 := (List.getElem?_eq_some_iff.mp hk).1
  rw [show k = 0 by omega] at hk
  cases hk
  exact hE
theorem mx_i_mk (h : mxH) (n : Nat) : mx_i (mx_mk h n) (100 + mx_c h) = fun _ => 0 := mx_rw_eq (mx_i h) _ _
theorem mx_r_mk (h : mxH) (n : Nat) : mx_r (mx_mk h n) (100 + mx_c h) = fun _ => 0 := mx_rw_eq (mx_r h) _ _
theorem mx_l_mk (h : mxH) (n : Nat) : mx_l (mx_mk h n) (100 + mx_c h) = fun _ => 0 := mx_rw_eq (mx_l h) _ _
theorem mx_cs_mk (h : mxH) (n : Nat) : mx_cs (mx_mk h n) = mx_cs h + 1 := by
  show mx_c h + 1 + mx_x h = mx_c h + mx_x h + 1
  omega
theorem mx_n_mk (h : mxH) (n : Nat) : mx_n (mx_mk h n) = mx_n h + n := rfl
section SND8
variable {G : mxGl} {p : Program} {l : Launch} {e : Env} {R : Room} {s : State} {m : MethodId} {args : Array Value} {below : List Frame} {meth : Method} {c : Code} {y : Nat} {h0 : mxH} {Q : State → Prop}
theorem mx_cat_sum (G : mxGl) (hG : g_ok G) (st : List Value) (hst : ∀ v ∈ st, v.category = mx_cat v) : ((st.map (mx_rv G)).map fun v => v.category).sum = (st.map mx_cat).sum := by
  rw [List.map_map]
  congr 1
  apply List.map_congr_left
  intro v hv
  show (mx_rv G v).category = mx_cat v
  rw [mx_rv_cat G hG, hst v hv]
theorem mx_cat_le (G : mxGl) (hG : g_ok G) (st : List Value) : ((st.map (mx_rv G)).map fun v => v.category).sum ≤ (st.map mx_cat).sum := by
  induction st with
  | nil => exact Nat.le_refl _
  | cons v t ih =>
    simp only [List.map_cons, List.sum_cons]
    have hv : (mx_rv G v).category ≤ mx_cat v := by
      rw [mx_rv_cat G hG]
      cases v <;> simp [Value.category, mx_cat]
    omega
set_option maxHeartbeats 4000000 in
theorem mx_sna (C : mx_Cx G p l s m meth c y) {i pc len : Nat} {t : ArrayType} {r : List Nat} {v : Int32} {ls : mxLs} {st st' : List Value} {h h' : mxH} {P : Prop} (he : (mxC y)[i]? = some (pc, .newarray t, len, r, v)) (hB : mx_na r st h = some (st', h', P)) (hP : P) (hRf : 8 ≤ R.frames) (hRl : 128 ≤ R.locals) (hm1 : mx_cs h0 ≤ mx_cs h) (hm2 : mx_n h0 ≤ mx_n h) (hc1 : mx_cs h' - mx_cs h0 ≤ R.cells) (hc2 : mx_n h' - mx_n h0 ≤ R.slots)
    (k : mx_WW G p l e R s m args below meth c y h0 Q (i + 1) ls st' h') : mx_WW G p l e R s m args below meth c y h0 Q i ls st h := by
  obtain ⟨hx, hb, hml, hown, hK, hST, hlocks, hret, hname, hG, hl, htab, hok, hy⟩ := C
  obtain ⟨hd, hpc, hn, ho⟩ := mx_ent hok he
  intro H locs la hR hS hL
  rw [hpc]
  have hts : ∀ w ∈ mxAll, w.before args s = true := fun w hw => hK.w hw
  have hD := mx_ws_D G h
  obtain ⟨rfl, hnx⟩ := hn 2 rfl
  obtain ⟨n, tl, kd, rfl, rfl, rfl, rfl, rfl⟩ := mx_na_inv hB
  obtain ⟨hT, hn0, hlt⟩ := hP
  rcases (show kd = 50 ∨ kd = 51 ∨ kd = 52 ∨ (kd ≠ 50 ∧ kd ≠ 51 ∧ kd ≠ 52) by omega) with rfl | rfl | rfl | ⟨k1, k2, k3⟩
  · obtain rfl : t = .int := of_decide_eq_true ho
    have harr := hK.w (args := args) (mx_arw (.arrayClass .int) (by simp))
    refine va_newaK (atype := .int) hx hb harr rfl hd rfl hn0 rfl (by show n.toNatClampNeg * 4 ≤ 536870912; have := mx_T_len (100 + mx_c h); rw [hT] at this; simp only at this; omega) (by rw [mx_cs_mk] at hc1; omega) (by rw [mx_n_mk] at hc2; omega) (hR.1 hlt) (fun H1 cA e1 z1 o1 hAr hNm => ?_)
    have hcA : cA = g_A G 0 := Option.some.inj (hNm.symm.trans (hK.2.1.2 0 _ rfl).2)
    subst hcA
    have hrep : mx_Rep G (mx_mk h n.toNatClampNeg) H1 := by
      refine mx_Rep_mk G hR hlt (by rw [z1, hR.1 hlt]) (fun q hq => o1 q (by rw [← hR.1 hlt]; exact hq)) ?_
      rw [mx_E_i G (a := 100 + mx_c h) (by rw [hT]), hT, mx_i_mk]
      exact e1
    have z := k H1 locs la hrep ⟨by rw [z1]; have := hS.1; rw [hR.1 hlt] at this; omega, fun q h1 h2 => (o1 q (by rw [← hR.1 hlt]; exact Nat.lt_of_lt_of_le h1 hS.1)).trans (hS.2.1 q h1 h2), hS.2.2⟩ hL
    rw [hnx, mx_cs_mk, mx_n_mk] at z
    rw [show mx_cs h + 1 - mx_cs h0 = mx_cs h - mx_cs h0 + 1 by omega, show mx_n h + n.toNatClampNeg - mx_n h0 = mx_n h - mx_n h0 + n.toNatClampNeg by omega] at z
    change W _ _ _ _ _ _ _ _ _ _ _ _ _ _ _ (F0 _ _ _ (mx_rc G (100 + mx_c h) :: _)) at z
    rw [mx_rc_obj G (by omega), show 100 + mx_c h - 100 = mx_c h by omega] at z
    exact z
  · obtain rfl : t = .byte := of_decide_eq_true ho
    have harr := hK.w (args := args) (mx_arw (.arrayClass .byte) (by simp))
    refine va_newaK (atype := .byte) hx hb harr rfl hd rfl hn0 rfl (by show n.toNatClampNeg * 1 ≤ 536870912; have := mx_T_len (100 + mx_c h); rw [hT] at this; simp only at this; omega) (by rw [mx_cs_mk] at hc1; omega) (by rw [mx_n_mk] at hc2; omega) (hR.1 hlt) (fun H1 cA e1 z1 o1 hAr hNm => ?_)
    have hcA : cA = g_A G 1 := Option.some.inj (hNm.symm.trans (hK.2.1.2 1 _ rfl).2)
    subst hcA
    have hrep : mx_Rep G (mx_mk h n.toNatClampNeg) H1 := by
      refine mx_Rep_mk G hR hlt (by rw [z1, hR.1 hlt]) (fun q hq => o1 q (by rw [← hR.1 hlt]; exact hq)) ?_
      rw [mx_E_b G (a := 100 + mx_c h) (by rw [hT]), hT, mx_i_mk]
      exact e1
    have z := k H1 locs la hrep ⟨by rw [z1]; have := hS.1; rw [hR.1 hlt] at this; omega, fun q h1 h2 => (o1 q (by rw [← hR.1 hlt]; exact Nat.lt_of_lt_of_le h1 hS.1)).trans (hS.2.1 q h1 h2), hS.2.2⟩ hL
    rw [hnx, mx_cs_mk, mx_n_mk] at z
    rw [show mx_cs h + 1 - mx_cs h0 = mx_cs h - mx_cs h0 + 1 by omega, show mx_n h + n.toNatClampNeg - mx_n h0 = mx_n h - mx_n h0 + n.toNatClampNeg by omega] at z
    change W _ _ _ _ _ _ _ _ _ _ _ _ _ _ _ (F0 _ _ _ (mx_rc G (100 + mx_c h) :: _)) at z
    rw [mx_rc_obj G (by omega), show 100 + mx_c h - 100 = mx_c h by omega] at z
    exact z
  · obtain rfl : t = .long := of_decide_eq_true ho
    have harr := hK.w (args := args) (mx_arw (.arrayClass .long) (by simp))
    refine va_newaK (atype := .long) hx hb harr rfl hd rfl hn0 rfl (by show n.toNatClampNeg * 8 ≤ 536870912; have := mx_T_len (100 + mx_c h); rw [hT] at this; simp only at this; omega) (by rw [mx_cs_mk] at hc1; omega) (by rw [mx_n_mk] at hc2; omega) (hR.1 hlt) (fun H1 cA e1 z1 o1 hAr hNm => ?_)
    have hcA : cA = g_A G 2 := Option.some.inj (hNm.symm.trans (hK.2.1.2 2 _ rfl).2)
    subst hcA
    have hrep : mx_Rep G (mx_mk h n.toNatClampNeg) H1 := by
      refine mx_Rep_mk G hR hlt (by rw [z1, hR.1 hlt]) (fun q hq => o1 q (by rw [← hR.1 hlt]; exact hq)) ?_
      rw [mx_E_l G (a := 100 + mx_c h) (by rw [hT]), hT, mx_l_mk]
      exact e1
    have z := k H1 locs la hrep ⟨by rw [z1]; have := hS.1; rw [hR.1 hlt] at this; omega, fun q h1 h2 => (o1 q (by rw [← hR.1 hlt]; exact Nat.lt_of_lt_of_le h1 hS.1)).trans (hS.2.1 q h1 h2), hS.2.2⟩ hL
    rw [hnx, mx_cs_mk, mx_n_mk] at z
    rw [show mx_cs h + 1 - mx_cs h0 = mx_cs h - mx_cs h0 + 1 by omega, show mx_n h + n.toNatClampNeg - mx_n h0 = mx_n h - mx_n h0 + n.toNatClampNeg by omega] at z
    change W _ _ _ _ _ _ _ _ _ _ _ _ _ _ _ (F0 _ _ _ (mx_rc G (100 + mx_c h) :: _)) at z
    rw [mx_rc_obj G (by omega), show 100 + mx_c h - 100 = mx_c h by omega] at z
    exact z
  · exfalso
    unfold mx_ok2 at ho
    simp only at ho
    split at ho
    · rename_i hr; exact k1 (List.head_eq_of_cons_eq hr)
    · rename_i hr; exact k2 (List.head_eq_of_cons_eq hr)
    · rename_i hr; exact k3 (List.head_eq_of_cons_eq hr)
    · cases ho
set_option maxHeartbeats 4000000 in
theorem mx_sanw (C : mx_Cx G p l s m meth c y) {i pc len : Nat} {ix : Nat} {r : List Nat} {v : Int32} {ls : mxLs} {st st' : List Value} {h h' : mxH} {P : Prop} (he : (mxC y)[i]? = some (pc, .anewarray ix, len, r, v)) (hB : mx_na r st h = some (st', h', P)) (hP : P) (hRf : 8 ≤ R.frames) (hRl : 128 ≤ R.locals) (hm1 : mx_cs h0 ≤ mx_cs h) (hm2 : mx_n h0 ≤ mx_n h) (hc1 : mx_cs h' - mx_cs h0 ≤ R.cells) (hc2 : mx_n h' - mx_n h0 ≤ R.slots)
    (k : mx_WW G p l e R s m args below meth c y h0 Q (i + 1) ls st' h') : mx_WW G p l e R s m args below meth c y h0 Q i ls st h := by
  obtain ⟨hx, hb, hml, hown, hK, hST, hlocks, hret, hname, hG, hl, htab, hok, hy⟩ := C
  obtain ⟨hd, hpc, hn, ho⟩ := mx_ent hok he
  intro H locs la hR hS hL
  rw [hpc]
  have hts : ∀ w ∈ mxAll, w.before args s = true := fun w hw => hK.w hw
  have hD := mx_ws_D G h
  obtain ⟨rfl, hnx⟩ := hn 3 rfl
  obtain ⟨n, tl, kd, rfl, rfl, rfl, rfl, rfl⟩ := mx_na_inv hB
  obtain ⟨hT, hn0, hlt⟩ := hP
  rcases of_decide_eq_true ho with ⟨hkd, hq⟩ | ⟨hkd, hq⟩
  · obtain rfl : kd = 53 := List.head_eq_of_cons_eq hkd
    have hcl := hK.w (args := args) (mx_an _ hq)
    refine W.anew (C := "StoneBacks$Word") hx hb hown hcl (va_AO.use hK.2.2.1.1) rfl hd rfl hn0 (by have := mx_T_len (100 + mx_c h); rw [hT] at this; simp only at this; omega) (by rw [mx_cs_mk] at hc1; omega) (by rw [mx_n_mk] at hc2; omega) (fun cA kA comp f1 f2 f3 f4 => ?_)
    obtain ⟨kB, compB, b1, b2, b3, b4⟩ := (hK.2.1.2 3 _ rfl).2
    have hcA : cA = g_A G 3 := Option.some.inj (f1.symm.trans b4)
    subst hcA
    generalize hH1 : H.push ({ cls := g_A G 3, slots := Array.replicate n.toNatClampNeg .null, vm := .none } : Cell) = H1
    have z1 : H1.size = H.size + 1 := by rw [← hH1, Array.size_push]
    have e1 : H1[H.size]? = some (arrV (g_A G 3) n.toNatClampNeg (fun _ => .null)) := by rw [← hH1, Array.getElem?_push_size, ← arrV_new]
    have o1 : ∀ q : Nat, q < H.size → H1[q]? = H[q]? := fun q hq => by rw [← hH1, Array.getElem?_push, if_neg (Nat.ne_of_lt hq)]
    have hrep : mx_Rep G (mx_mk h n.toNatClampNeg) H1 := by
      refine mx_Rep_mk G hR hlt z1 o1 ?_
      rw [mx_E_w G (a := 100 + mx_c h) (by rw [hT]), hT, mx_r_mk]
      rw [hR.1 hlt] at e1
      exact e1
    have z := k H1 locs la hrep ⟨by rw [z1]; have := hS.1; omega, fun q h1 h2 => (o1 q (Nat.lt_of_lt_of_le h1 hS.1)).trans (hS.2.1 q h1 h2), hS.2.2⟩ hL
    rw [hnx, mx_cs_mk, mx_n_mk] at z
    rw [show mx_cs h + 1 - mx_cs h0 = mx_cs h - mx_cs h0 + 1 by omega, show mx_n h + n.toNatClampNeg - mx_n h0 = mx_n h - mx_n h0 + n.toNatClampNeg by omega] at z
    change W _ _ _ _ _ _ _ _ _ _ _ _ _ _ _ (F0 _ _ _ (mx_rc G (100 + mx_c h) :: _)) at z
    rw [mx_rc_obj G (by omega), show 100 + mx_c h - 100 = mx_c h by omega, ← hR.1 hlt] at z
    exact z
  · obtain rfl : kd = 54 := List.head_eq_of_cons_eq hkd
    have hcl := hK.w (args := args) (mx_an _ hq)
    refine W.anew (C := "StoneBacks$Valley") hx hb hown hcl (va_AO.use hK.2.2.1.2) rfl hd rfl hn0 (by have := mx_T_len (100 + mx_c h); rw [hT] at this; simp only at this; omega) (by rw [mx_cs_mk] at hc1; omega) (by rw [mx_n_mk] at hc2; omega) (fun cA kA comp f1 f2 f3 f4 => ?_)
    obtain ⟨kB, compB, b1, b2, b3, b4⟩ := (hK.2.1.2 4 _ rfl).2
    have hcA : cA = g_A G 4 := Option.some.inj (f1.symm.trans b4)
    subst hcA
    generalize hH1 : H.push ({ cls := g_A G 4, slots := Array.replicate n.toNatClampNeg .null, vm := .none } : Cell) = H1
    have z1 : H1.size = H.size + 1 := by rw [← hH1, Array.size_push]
    have e1 : H1[H.size]? = some (arrV (g_A G 4) n.toNatClampNeg (fun _ => .null)) := by rw [← hH1, Array.getElem?_push_size, ← arrV_new]
    have o1 : ∀ q : Nat, q < H.size → H1[q]? = H[q]? := fun q hq => by rw [← hH1, Array.getElem?_push, if_neg (Nat.ne_of_lt hq)]
    have hrep : mx_Rep G (mx_mk h n.toNatClampNeg) H1 := by
      refine mx_Rep_mk G hR hlt z1 o1 ?_
      rw [mx_E_v G (a := 100 + mx_c h) (by rw [hT]), hT, mx_r_mk]
      rw [hR.1 hlt] at e1
      exact e1
    have z := k H1 locs la hrep ⟨by rw [z1]; have := hS.1; omega, fun q h1 h2 => (o1 q (Nat.lt_of_lt_of_le h1 hS.1)).trans (hS.2.1 q h1 h2), hS.2.2⟩ hL
    rw [hnx, mx_cs_mk, mx_n_mk] at z
    rw [show mx_cs h + 1 - mx_cs h0 = mx_cs h - mx_cs h0 + 1 by omega, show mx_n h + n.toNatClampNeg - mx_n h0 = mx_n h - mx_n h0 + n.toNatClampNeg by omega] at z
    change W _ _ _ _ _ _ _ _ _ _ _ _ _ _ _ (F0 _ _ _ (mx_rc G (100 + mx_c h) :: _)) at z
    rw [mx_rc_obj G (by omega), show 100 + mx_c h - 100 = mx_c h by omega, ← hR.1 hlt] at z
    exact z
set_option maxHeartbeats 4000000 in
theorem mx_snw (C : mx_Cx G p l s m meth c y) {i pc len : Nat} {ix : Nat} {r : List Nat} {v : Int32} {ls : mxLs} {st st' : List Value} {h h' : mxH} {P : Prop} (he : (mxC y)[i]? = some (pc, .new ix, len, r, v)) (hB : mx_nw r st h = some (st', h', P)) (hP : P) (hRf : 8 ≤ R.frames) (hRl : 128 ≤ R.locals) (hm1 : mx_cs h0 ≤ mx_cs h) (hm2 : mx_n h0 ≤ mx_n h) (hc1 : mx_cs h' - mx_cs h0 ≤ R.cells) (hc2 : mx_n h' - mx_n h0 ≤ R.slots)
    (k : mx_WW G p l e R s m args below meth c y h0 Q (i + 1) ls st' h') : mx_WW G p l e R s m args below meth c y h0 Q i ls st h := by
  obtain ⟨hx, hb, hml, hown, hK, hST, hlocks, hret, hname, hG, hl, htab, hok, hy⟩ := C
  obtain ⟨hd, hpc, hn, ho⟩ := mx_ent hok he
  intro H locs la hR hS hL
  rw [hpc]
  have hts : ∀ w ∈ mxAll, w.before args s = true := fun w hw => hK.w hw
  have hD := mx_ws_D G h
  obtain ⟨rfl, hnx⟩ := hn 3 rfl
  obtain ⟨ci, rfl, rfl, rfl, rfl⟩ := mx_nw_inv hB
  obtain ⟨hs, hlt⟩ := hP
  change (decide (ci < 11) && decide ((mxOw y, ix, ci) ∈ mxCLt)) = true at ho
  simp only [Bool.and_eq_true, decide_eq_true_eq] at ho
  obtain ⟨hci, hq⟩ := ho
  have hKn := hK.2.1.1 ci _ (mx_cl_get hci)
  refine W.newcK (C := mx_cn ci) (n := mxNf ci) hx hb hown (hK.w (mx_cl _ hq)) (hK.w (mx_cx _ hq)) (hK.w (mx_ci _ hq)) rfl hd (by rw [mx_cs_mk] at hc1; omega) (by rw [mx_n_mk] at hc2; omega) hKn.2.1 rfl (fun H1 kC hkC e1 z1 o1 => ?_)
  have hrep : mx_Rep G (mx_mk h (mxNf ci)) H1 := by
    refine mx_Rep_mk G hR hlt z1 o1 ?_
    rw [mx_E_o G (a := 100 + mx_c h) hs hci, ← hR.1 hlt]
    refine ⟨_, mx_cl_get hci, (u_born (mx_ty ci) hts (mx_uw hci) hKn hkC e1 (mx_ty_ok hci)).to (fun j hj => ?_)⟩
    unfold vp_V
    rw [List.getD_eq_getElem?_getD, mx_fs_get G hj]
    show defaultValue (mx_ty ci j) = mx_fv G (mx_mk h (mxNf ci)) ci (100 + mx_c h) j
    unfold mx_fv
    rw [mx_i_mk, mx_r_mk]
    by_cases hf : mxFi ci j = true
    · rw [if_pos hf]
      rcases mx_ty_int hci hj hf with ⟨e9, -⟩ | ⟨e9, -⟩ <;> rw [e9] <;> rfl
    · rw [if_neg hf]
      rcases mx_ty_ref hci hj (by simpa using hf) with ⟨n9, e9⟩ | ⟨t9, e9⟩ <;> rw [e9] <;> rfl
  have z := k H1 locs la hrep ⟨by rw [z1]; have := hS.1; omega, fun q h1 h2 => (o1 q (Nat.lt_of_lt_of_le h1 hS.1)).trans (hS.2.1 q h1 h2), hS.2.2⟩ hL
  rw [hnx, mx_cs_mk, mx_n_mk] at z
  rw [show mx_cs h + 1 - mx_cs h0 = mx_cs h - mx_cs h0 + 1 by omega, show mx_n h + mxNf ci - mx_n h0 = mx_n h - mx_n h0 + mxNf ci by omega] at z
  change W _ _ _ _ _ _ _ _ _ _ _ _ _ _ _ (F0 _ _ _ (mx_rc G (100 + mx_c h) :: _)) at z
  rw [mx_rc_obj G (by omega), show 100 + mx_c h - 100 = mx_c h by omega, ← hR.1 hlt] at z
  exact z
set_option maxHeartbeats 4000000 in
theorem mx_soi (C : mx_Cx G p l s m meth c y) {i pc len : Nat} {ix : Nat} {r : List Nat} {v : Int32} {ls : mxLs} {st st' : List Value} {h h' : mxH} {P : Prop} (he : (mxC y)[i]? = some (pc, .invokespecial ix, len, r, v)) (hB : mx_oin r st h = some (st', h', P)) (hP : P) (hRf : 8 ≤ R.frames) (hRl : 128 ≤ R.locals) (hm1 : mx_cs h0 ≤ mx_cs h) (hm2 : mx_n h0 ≤ mx_n h) (hc1 : mx_cs h' - mx_cs h0 ≤ R.cells) (hc2 : mx_n h' - mx_n h0 ≤ R.slots)
    (k : mx_WW G p l e R s m args below meth c y h0 Q (i + 1) ls st' h') : mx_WW G p l e R s m args below meth c y h0 Q i ls st h := by
  obtain ⟨hx, hb, hml, hown, hK, hST, hlocks, hret, hname, hG, hl, htab, hok, hy⟩ := C
  obtain ⟨hd, hpc, hn, ho⟩ := mx_ent hok he
  intro H locs la hR hS hL
  rw [hpc]
  have hts : ∀ w ∈ mxAll, w.before args s = true := fun w hw => hK.w hw
  have hD := mx_ws_D G h
  obtain ⟨rfl, hnx⟩ := hn 3 rfl
  obtain ⟨a, t, rfl, rfl, rfl, rfl, rfl⟩ := mx_oin_inv hB
  have hq : (mxOw y, ix, 0) ∈ mxOIt := of_decide_eq_true ho
  have z := k H locs la hR hS hL
  rw [hnx] at z
  have hsum := mx_cat_le G hG st'
  change W _ _ _ _ _ _ _ _ _ _ _ _ _ _ _ (F0 _ _ _ (mx_rc G a :: _))
  rw [mx_rc_obj G hP.1]
  exact W.objInit hx hb hown (hK.w (mx_oi _ hq)) (hK.w (mx_oiw _ (by simp))) (hK.w (mx_oiw _ (by simp))) rfl (by rw [hml]; exact hL.2.1.1) rfl hd (by omega) (by have := hP.2; show 2 * 0 + _ + 12 ≤ R.locals; omega) z
set_option maxHeartbeats 4000000 in
theorem mx_siv (C : mx_Cx G p l s m meth c y) {i pc len : Nat} {ix : Nat} {r : List Nat} {v : Int32} {ls : mxLs} {st st' : List Value} {h h' : mxH} {P : Prop} (he : (mxC y)[i]? = some (pc, .invokestatic ix, len, r, v)) (hB : mx_cp r st h = some (st', h', P)) (hP : P) (hRf : 8 ≤ R.frames) (hRl : 128 ≤ R.locals) (hm1 : mx_cs h0 ≤ mx_cs h) (hm2 : mx_n h0 ≤ mx_n h) (hc1 : mx_cs h' - mx_cs h0 ≤ R.cells) (hc2 : mx_n h' - mx_n h0 ≤ R.slots)
    (k : mx_WW G p l e R s m args below meth c y h0 Q (i + 1) ls st' h') : mx_WW G p l e R s m args below meth c y h0 Q i ls st h := by
  obtain ⟨hx, hb, hml, hown, hK, hST, hlocks, hret, hname, hG, hl, htab, hok, hy⟩ := C
  obtain ⟨hd, hpc, hn, ho⟩ := mx_ent hok he
  intro H locs la hR hS hL
  rw [hpc]
  have hts : ∀ w ∈ mxAll, w.before args s = true := fun w hw => hK.w hw
  have hD := mx_ws_D G h
  obtain ⟨rfl, hnx⟩ := hn 3 rfl
  rcases mx_cp_inv hB with ⟨n, dp, b, sp, a, t, rfl, rfl, rfl, rfl, rfl⟩ | ⟨y1, x1, t, rfl, rfl, rfl, rfl, rfl⟩ | ⟨y1, x1, t, rfl, rfl, rfl, rfl, rfl⟩
  · have hq : (mxOw y, ix, 0) ∈ mxACt := of_decide_eq_true ho
    obtain ⟨⟨⟨hsa, hsb⟩, hg⟩, h1, h2, h3, h4, h5, h8⟩ := hP
    have hala := mx_alc hg (a := a) (by omega)
    have halb := mx_alc hg (a := b) (by omega)
    have hoa := mx_arr G hala.1 hala.2
    rw [mx_E_i G hsa] at hoa
    have hob := mx_arr G halb.1 halb.2
    rw [mx_E_i G hsb] at hob
    have hsum := mx_cat_le G hG st'
    change W _ _ _ _ _ _ _ _ _ _ _ _ _ _ _ (F0 _ _ _ (.int n :: .int dp :: mx_rc G b :: .int sp :: mx_rc G a :: _))
    rw [mx_rc_obj G hala.1, mx_rc_obj G halb.1]
    refine va_copyi hx hb (by rw [hml]; exact hL.2.1.1.symm) hown (hK.w (mx_ac _ hq)) (hK.w (mx_acw _ (by simp))) (hK.w (mx_acw _ (by simp))) (hK.w (mx_acw _ (by simp))) hK.2.1 hR.2.1 hD hS (a - 100) (b - 100) 0 0 hoa hob rfl rfl rfl h1 h2 h3 h4 h5 (fun _ _ => rfl) (by omega) (by rw [show nativeFrameWords "java/lang/System" "arraycopy" 5 = 7 by decide +kernel]; omega) hd (fun H1 locs1 hP1 hD1 hS1 => ?_)
    have z := k H1 locs1 la (mx_Rep_cp G hR hsb hP1 (fun q => absurd hg.1 (by omega))) hS1 hL
    rw [hnx] at z
    exact z
  · have hq : (mxOw y, ix, 15) ∈ mxMMt := of_decide_eq_true ho
    have z := k H locs la hR hS hL
    rw [hnx] at z
    have hsum := mx_cat_le G hG t
    exact va_mmin hx hb (by rw [hml]; exact hL.2.1.1.symm) hown (hK.w (mx_mm _ hq)) (hK.w (mx_mmw _ (by simp))) (hK.w (mx_mmw _ (by simp))) (hK.w (mx_mmw _ (by simp))) (by omega) (by omega) hc1 hc2 hd z
  · have hq : (mxOw y, ix, 16) ∈ mxMMt := of_decide_eq_true ho
    have z := k H locs la hR hS hL
    rw [hnx] at z
    have hsum := mx_cat_le G hG t
    exact va_mmax hx hb (by rw [hml]; exact hL.2.1.1.symm) hown (hK.w (mx_mm _ hq)) (hK.w (mx_mmw _ (by simp))) (hK.w (mx_mmw _ (by simp))) (hK.w (mx_mmw _ (by simp))) (by omega) (by omega) hc1 hc2 hd z
end SND8
