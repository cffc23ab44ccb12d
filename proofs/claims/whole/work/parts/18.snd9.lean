/-! SOUNDNESS, 9: the heap instructions together; jumps, branches, ends -/
section SND9
variable {G : mxGl} {p : Program} {l : Launch} {e : Env} {R : Room} {s : State} {m : MethodId} {args : Array Value} {below : List Frame} {meth : Method} {c : Code} {y : Nat} {h0 : mxH} {Q : State → Prop}
theorem mx_sB (C : mx_Cx G p l s m meth c y) {i pc len : Nat} {ins : Instr} {r : List Nat} {v : Int32} {ls : mxLs} {st st' : List Value} {h h' : mxH} {P : Prop} (he : (mxC y)[i]? = some (pc, ins, len, r, v)) (hB : mx_B ins r st h = some (st', h', P)) (hP : P) (hRf : 8 ≤ R.frames) (hRl : 128 ≤ R.locals) (hm1 : mx_cs h0 ≤ mx_cs h) (hm2 : mx_n h0 ≤ mx_n h) (hc1 : mx_cs h' - mx_cs h0 ≤ R.cells) (hc2 : mx_n h' - mx_n h0 ≤ R.slots)
    (k : mx_WW G p l e R s m args below meth c y h0 Q (i + 1) ls st' h') : mx_WW G p l e R s m args below meth c y h0 Q i ls st h := by
  cases ins
  case getfield ix => exact mx_sgf C he hB hP hRf hRl hm1 hm2 hc1 hc2 k
  case putfield ix => exact mx_spf C he hB hP hRf hRl hm1 hm2 hc1 hc2 k
  case iaload => exact mx_sia C he hB hP hRf hRl hm1 hm2 hc1 hc2 k
  case iastore => exact mx_sis C he hB hP hRf hRl hm1 hm2 hc1 hc2 k
  case baload => exact mx_sba C he hB hP hRf hRl hm1 hm2 hc1 hc2 k
  case bastore => exact mx_sbs C he hB hP hRf hRl hm1 hm2 hc1 hc2 k
  case laload => exact mx_sla C he hB hP hRf hRl hm1 hm2 hc1 hc2 k
  case lastore => exact mx_sls C he hB hP hRf hRl hm1 hm2 hc1 hc2 k
  case aaload => exact mx_saa C he hB hP hRf hRl hm1 hm2 hc1 hc2 k
  case aastore => exact mx_sas C he hB hP hRf hRl hm1 hm2 hc1 hc2 k
  case arraylength => exact mx_sal C he hB hP hRf hRl hm1 hm2 hc1 hc2 k
  case newarray t => exact mx_sna C he hB hP hRf hRl hm1 hm2 hc1 hc2 k
  case anewarray ix => exact mx_sanw C he hB hP hRf hRl hm1 hm2 hc1 hc2 k
  case new ix => exact mx_snw C he hB hP hRf hRl hm1 hm2 hc1 hc2 k
  case idiv => exact mx_sdv C he hB hP hRf hRl hm1 hm2 hc1 hc2 k
  case irem => exact mx_srm C he hB hP hRf hRl hm1 hm2 hc1 hc2 k
  case invokestatic ix => exact mx_siv C he hB hP hRf hRl hm1 hm2 hc1 hc2 k
  case invokespecial ix => exact mx_soi C he hB hP hRf hRl hm1 hm2 hc1 hc2 k
  all_goals exact absurd (show (none : Option (List Value × mxH × Prop)) = some _ from hB) (fun q => by cases q)
theorem mx_in {y t : Nat} (h : t < (mxC y).length) : ∃ e9, (mxC y)[t]? = some e9 := ⟨_, List.getElem?_eq_getElem h⟩
/-! switches -/
theorem mx_inc_toInt {v : Int32} (h : v.toInt < 100000) (h0 : 0 ≤ v.toInt) : (v + 1).toInt = v.toInt + 1 := by
  rw [Int32.toInt_add]
  exact Int.bmod_eq_of_le (by show _ ≤ v.toInt + 1; omega) (by show v.toInt + 1 < _; omega)
theorem mx_sw_out : ∀ (ts : List Nat) (v x : Int32) (d : Nat), 0 ≤ v.toInt → v.toInt + ts.length < 50000 → (x.toInt < v.toInt ∨ v.toInt + ts.length ≤ x.toInt) → mx_sw v ts d x = d
  | [], v, x, d, _, _, _ => rfl
  | t :: ts, v, x, d, h0, h1, h => by
    rw [List.length_cons] at h1 h
    unfold mx_sw
    have hne : ¬ x = v := by
      intro q
      rw [q] at h
      omega
    rw [if_neg hne]
    have hv : (v + 1).toInt = v.toInt + 1 := mx_inc_toInt (by omega) h0
    have hnt : x.toInt ≠ v.toInt := fun q => hne (Int32.toInt_inj.mp q)
    exact mx_sw_out ts (v + 1) x d (by omega) (by rw [hv]; omega) (by rw [hv]; omega)
theorem mx_sw_in : ∀ (ts : List Nat) (v x : Int32) (d k : Nat), 0 ≤ v.toInt → v.toInt + ts.length < 50000 → k < ts.length → x.toInt = v.toInt + k → ts[k]? = some (mx_sw v ts d x)
  | [], v, x, d, k, _, _, hk, _ => absurd hk (Nat.not_lt_zero _)
  | t :: ts, v, x, d, 0, h0, h1, hk, h => by
    unfold mx_sw
    rw [if_pos (Int32.toInt_inj.mp (by rw [h]; omega))]
    rfl
  | t :: ts, v, x, d, k + 1, h0, h1, hk, h => by
    rw [List.length_cons] at h1 hk
    have hv : (v + 1).toInt = v.toInt + 1 := mx_inc_toInt (by omega) h0
    unfold mx_sw
    rw [if_neg (fun q => by rw [q] at h; omega)]
    exact mx_sw_in ts (v + 1) x d k (by omega) (by rw [hv]; omega) (by omega) (by rw [hv, h]; omega)
theorem mx_swt_inv {r : List Nat} {v : Int32} {st st' : List Value} {j : Nat} (h : mx_swt r v st = some (j, st')) : ∃ d ts x, r = d :: ts ∧ st = .int x :: st' ∧ j = mx_sw v ts d x := by
  unfold mx_swt at h
  split at h
  · simp only [Option.some.injEq, Prod.mk.injEq] at h
    obtain ⟨rfl, rfl⟩ := h
    exact ⟨_, _, _, rfl, rfl, rfl⟩
  · cases h
set_option maxHeartbeats 1000000 in
theorem mx_sJ (C : mx_Cx G p l s m meth c y) {i pc len j : Nat} {ins : Instr} {r : List Nat} {v : Int32} {ls : mxLs} {st st' : List Value} {h : mxH} (he : (mxC y)[i]? = some (pc, ins, len, r, v)) (hJ : mx_J ins r v st = some (j, st'))
    (k : mx_WW G p l e R s m args below meth c y h0 Q j ls st' h) : mx_WW G p l e R s m args below meth c y h0 Q i ls st h := by
  obtain ⟨hx, hb, hml, hown, hK, hST, hlocks, hret, hname, hG, hl, htab, hok, hy⟩ := C
  obtain ⟨hd, hpc, hn, ho⟩ := mx_ent hok he
  have hswo := List.all_eq_true.mp (mx_swo_all y hy) _ (List.mem_of_getElem? he)
  intro H locs la hR hS hL
  rw [hpc]
  have z := k H locs la hR hS hL
  cases ins
  case goto off =>
    have hJ2 : (match (generalizing := false) r with | [t] => some (t, st) | _ => none) = some (j, st') := hJ
    have hin9 : r.headD 0 < (mxC y).length := of_decide_eq_true hswo
    have ho2 : (decide (len = 3) && decide (mx_pcs (mxC y) (r.headD 0) = (pc : Int) + off)) = true := ho
    simp only [Bool.and_eq_true, decide_eq_true_eq] at ho2
    obtain ⟨rfl, hp⟩ := ho2
    split at hJ2
    · simp only [Option.some.injEq, Prod.mk.injEq] at hJ2
      obtain ⟨rfl, rfl⟩ := hJ2
      exact lv_goto hx hb hd (mx_pc_of hp (mx_in hin9)) z
    · cases hJ2
  case tableswitch dflt lo hi offs =>
    obtain ⟨d, ts, x, rfl, rfl, rfl⟩ := mx_swt_inv hJ
    have ho2 : (decide (v.toInt = lo) && decide (hi = lo + (offs.size : Int) - 1) && (decide (mx_pcs (mxC y) d = (pc : Int) + dflt) && decide (ts.map (mx_pcs (mxC y)) = offs.toList.map (fun o => (pc : Int) + o)))) = true := ho
    simp only [Bool.and_eq_true, decide_eq_true_eq] at ho2
    obtain ⟨⟨rfl, rfl⟩, hpd, hpt⟩ := ho2
    have hs2 : (decide (0 ≤ v.toInt ∧ v.toInt < 5000) && decide ((d :: ts).length < 100) && (d :: ts).all (fun t => decide (t < (mxC y).length))) = true := hswo
    rw [Bool.and_eq_true, List.all_eq_true] at hs2
    obtain ⟨hs2, hall⟩ := hs2
    simp only [Bool.and_eq_true, decide_eq_true_eq, List.length_cons] at hs2
    have hlen : ts.length = offs.size := by
      have := congrArg List.length hpt
      simpa using this
    by_cases hin : v.toInt ≤ x.toInt ∧ x.toInt < v.toInt + ts.length
    · obtain ⟨q, hq⟩ : ∃ q : Nat, x.toInt = v.toInt + q := ⟨(x.toInt - v.toInt).toNat, by omega⟩
      have hql : q < ts.length := by omega
      have hsw := mx_sw_in ts v x d q (by omega) (by omega) hql hq
      obtain ⟨of, hof⟩ : ∃ of, offs[q]? = some of := ⟨offs[q]'(by omega), Array.getElem?_eq_getElem (by omega)⟩
      have hpt2 := congrArg (fun l => l[q]?) hpt
      simp only [List.getElem?_map, hsw, Option.map_some] at hpt2
      have hof2 : offs.toList[q]? = some of := by rw [Array.getElem?_toList]; exact hof
      rw [hof2] at hpt2
      simp only [Option.map_some, Option.some.injEq] at hpt2
      exact lv_tableIn hx hb hd (by omega) (by omega) (by rw [hq, show v.toInt + (q : Int) - v.toInt = (q : Int) by omega]; exact hof) (mx_pc_of hpt2 (mx_in (of_decide_eq_true (hall _ (List.mem_cons_of_mem _ (List.mem_of_getElem? hsw)))))) z
    · have hsw := mx_sw_out ts v x d (by omega) (by omega) (by omega)
      rw [hsw] at z
      exact lv_tableOut hx hb hd (by omega) (mx_pc_of hpd (mx_in (of_decide_eq_true (hall _ List.mem_cons_self)))) z
  case lookupswitch dflt ps =>
    obtain ⟨d, ts, x, rfl, rfl, rfl⟩ := mx_swt_inv hJ
    have ho2 : (decide (ps.toList.map (fun q => q.1) = (List.range ps.size).map (fun (k : Nat) => v.toInt + (k : Int))) && (decide (mx_pcs (mxC y) d = (pc : Int) + dflt) && decide (ts.map (mx_pcs (mxC y)) = (ps.toList.map (fun q => q.2)).map (fun o => (pc : Int) + o))) && decide (v.toInt = 0) && decide (ps.size < 100)) = true := ho
    simp only [Bool.and_eq_true, decide_eq_true_eq] at ho2
    obtain ⟨⟨⟨-, hpd, hpt⟩, -⟩, -⟩ := ho2
    have hs2 : (decide (ps.toList.map (fun q => q.1) = [0, 1]) && decide (v = 0) && decide ((d :: ts).length = 3) && (d :: ts).all (fun t => decide (t < (mxC y).length))) = true := hswo
    rw [Bool.and_eq_true, List.all_eq_true] at hs2
    obtain ⟨hs2, hall⟩ := hs2
    simp only [Bool.and_eq_true, decide_eq_true_eq] at hs2
    obtain ⟨⟨hkey, rfl⟩, hl3⟩ := hs2
    obtain ⟨o1, o2, hps⟩ : ∃ o1 o2, ps.toList = [(0, o1), (1, o2)] := by
      rcases hpl : ps.toList with _ | ⟨⟨a1, b1⟩, _ | ⟨⟨a2, b2⟩, _ | ⟨q3, t3⟩⟩⟩ <;> rw [hpl] at hkey <;> simp at hkey
      obtain ⟨rfl, rfl⟩ := hkey
      exact ⟨_, _, rfl⟩
    obtain ⟨t1, t2, rfl⟩ : ∃ t1 t2, ts = [t1, t2] := by
      rcases ts with _ | ⟨t1, _ | ⟨t2, _ | ⟨t3, t⟩⟩⟩ <;> simp at hl3
      exact ⟨t1, t2, rfl⟩
    rw [hps] at hpt
    simp only [List.map_cons, List.map_nil, List.cons.injEq, and_true] at hpt
    have hsort : (ps.toList.zip (ps.toList.drop 1)).all (fun (a, next) => a.1 < next.1) = true := by rw [hps]; rfl
    have hx0 : (x = 0) ↔ x.toInt = 0 := by rw [← Int32.toInt_inj]; rfl
    have hx1 : (x = 0 + 1) ↔ x.toInt = 1 := by rw [← Int32.toInt_inj]; rfl
    by_cases e0 : x.toInt = 0
    · have hsw : mx_sw 0 [t1, t2] d x = t1 := by unfold mx_sw; rw [if_pos (hx0.mpr e0)]
      rw [hsw] at z
      refine lv_lookup hx hb hd hsort (off := o1) ?_ (mx_pc_of hpt.1 (mx_in (of_decide_eq_true (hall t1 (by simp))))) z
      rw [hps, e0]; simp [Op.lookupswitch.offset]
    · by_cases e1 : x.toInt = 1
      · have hsw : mx_sw 0 [t1, t2] d x = t2 := by unfold mx_sw; rw [if_neg (fun q => e0 (hx0.mp q))]; unfold mx_sw; rw [if_pos (hx1.mpr e1)]
        rw [hsw] at z
        refine lv_lookup hx hb hd hsort (off := o2) ?_ (mx_pc_of hpt.2 (mx_in (of_decide_eq_true (hall t2 (by simp))))) z
        rw [hps, e1]; simp [Op.lookupswitch.offset]
      · have hsw : mx_sw 0 [t1, t2] d x = d := by unfold mx_sw; rw [if_neg (fun q => e0 (hx0.mp q))]; unfold mx_sw; rw [if_neg (fun q => e1 (hx1.mp q))]; rfl
        rw [hsw] at z
        refine lv_lookup hx hb hd hsort (off := dflt) ?_ (mx_pc_of hpd (mx_in (of_decide_eq_true (hall d (by simp))))) z
        rw [hps]; simp [Op.lookupswitch.offset, e0, e1, Ne.symm e0, Ne.symm e1]
  all_goals exact absurd (show (none : Option (Nat × List Value)) = some _ from hJ) (fun q => by cases q)
/-! branches -/
theorem mx_word_inj {G : mxGl} {U : State} {H : Heap} (hST : mx_ST G U H) {x y : Nat} (hx : x = 0 ∨ (3 ≤ x ∧ x < 29)) (hy : y = 0 ∨ (3 ≤ y ∧ y < 29)) : mx_ro G x = mx_ro G y ↔ x = y := by
  constructor
  · intro h
    rcases hx with rfl | hx <;> rcases hy with rfl | hy
    · rfl
    · rw [mx_ro_null, mx_ro_of G (mx_rc_const G (by omega) (by omega) (by omega))] at h; cases h
    · rw [mx_ro_null, mx_ro_of G (mx_rc_const G (by omega) (by omega) (by omega))] at h; cases h
    · rw [mx_ro_of G (mx_rc_const G (n := x) (by omega) (by omega) (by omega)), mx_ro_of G (mx_rc_const G (n := y) (by omega) (by omega) (by omega))] at h
      have h2 := Option.some.inj h
      have := hST.2.1 (x - 3) (y - 3) (by omega) (by omega) (by rw [show 3 + (x - 3) = x by omega, show 3 + (y - 3) = y by omega]; exact h2)
      omega
  · rintro rfl; rfl
set_option maxHeartbeats 1000000 in
theorem mx_sbr (C : mx_Cx G p l s m meth c y) {i pc len : Nat} {ins : Instr} {r : List Nat} {v : Int32} {ls : mxLs} {st st' : List Value} {h : mxH} {P cd : Prop} (he : (mxC y)[i]? = some (pc, ins, len, r, v)) (hbr : mx_br ins st = some (P, cd, st')) (hP : P)
    (kt : cd → mx_WW G p l e R s m args below meth c y h0 Q (r.headD 0) ls st' h) (kf : ¬ cd → mx_WW G p l e R s m args below meth c y h0 Q (i + 1) ls st' h) : mx_WW G p l e R s m args below meth c y h0 Q i ls st h := by
  obtain ⟨hx, hb, hml, hown, hK, hST, hlocks, hret, hname, hG, hl, htab, hok, hy⟩ := C
  obtain ⟨hd, hpc, hn, ho⟩ := mx_ent hok he
  have hswo := List.all_eq_true.mp (mx_swo_all y hy) _ (List.mem_of_getElem? he)
  intro H locs la hR hS hL
  rw [hpc]
  have zt : cd → W p l e R s m args below meth c H locs (mx_cs h - mx_cs h0) (mx_n h - mx_n h0) Q (F0 m (mx_pc y (r.headD 0)) la (st'.map (mx_rv G))) := fun q => kt q H locs la hR hS hL
  cases ins
  case ifCond cc off =>
    obtain ⟨rfl, hnx⟩ := hn 3 rfl
    have htg := mx_pc_of (of_decide_eq_true ho : mx_pcs (mxC y) (r.headD 0) = (pc : Int) + off) (mx_in (of_decide_eq_true hswo))
    have zf : ¬ cd → W p l e R s m args below meth c H locs (mx_cs h - mx_cs h0) (mx_n h - mx_n h0) Q (F0 m (pc + 3) la (st'.map (mx_rv G))) := fun q => by have z := kf q H locs la hR hS hL; rw [hnx] at z; exact z
    have hB2 : (match (generalizing := false) st with | .int x :: s => some (True, mx_q1 cc x, s) | _ => none) = some (P, cd, st') := hbr
    split at hB2
    · simp only [Option.some.injEq, Prod.mk.injEq] at hB2
      obtain ⟨-, rfl, rfl⟩ := hB2
      cases cc
      · exact lv_if_eq hx hb hd htg (fun q => zt q) (fun q => zf q)
      · exact lv_if_ne hx hb hd htg (fun q => zt q) (fun q => zf (fun q2 => q2 q))
      · exact lv_if_lt hx hb hd htg (fun q => zt q) (fun q => zf q)
      · exact lv_if_ge hx hb hd htg (fun q => zt q) (fun q => zf q)
      · exact lv_if_gt hx hb hd htg (fun q => zt q) (fun q => zf q)
      · exact lv_if_le hx hb hd htg (fun q => zt q) (fun q => zf q)
    · cases hB2
  case if_icmp cc off =>
    obtain ⟨rfl, hnx⟩ := hn 3 rfl
    have htg := mx_pc_of (of_decide_eq_true ho : mx_pcs (mxC y) (r.headD 0) = (pc : Int) + off) (mx_in (of_decide_eq_true hswo))
    have zf : ¬ cd → W p l e R s m args below meth c H locs (mx_cs h - mx_cs h0) (mx_n h - mx_n h0) Q (F0 m (pc + 3) la (st'.map (mx_rv G))) := fun q => by have z := kf q H locs la hR hS hL; rw [hnx] at z; exact z
    have hB2 : (match (generalizing := false) st with | .int y :: .int x :: s => some (True, mx_q2 cc x y, s) | _ => none) = some (P, cd, st') := hbr
    split at hB2
    · simp only [Option.some.injEq, Prod.mk.injEq] at hB2
      obtain ⟨-, rfl, rfl⟩ := hB2
      cases cc
      · exact lv_icmp_eq hx hb hd htg (fun q => zt q) (fun q => zf q)
      · exact lv_icmp_ne hx hb hd htg (fun q => zt q) (fun q => zf (fun q2 => q2 q))
      · exact lv_icmp_lt hx hb hd htg (fun q => zt q) (fun q => zf q)
      · exact lv_icmp_ge hx hb hd htg (fun q => zt q) (fun q => zf q)
      · exact lv_icmp_gt hx hb hd htg (fun q => zt q) (fun q => zf q)
      · exact lv_icmp_le hx hb hd htg (fun q => zt q) (fun q => zf q)
    · cases hB2
  case if_acmp cc off =>
    obtain ⟨rfl, hnx⟩ := hn 3 rfl
    have htg := mx_pc_of (of_decide_eq_true ho : mx_pcs (mxC y) (r.headD 0) = (pc : Int) + off) (mx_in (of_decide_eq_true hswo))
    have zf : ¬ cd → W p l e R s m args below meth c H locs (mx_cs h - mx_cs h0) (mx_n h - mx_n h0) Q (F0 m (pc + 3) la (st'.map (mx_rv G))) := fun q => by have z := kf q H locs la hR hS hL; rw [hnx] at z; exact z
    have hB2 : (match (generalizing := false) st with | .ref y :: .ref x :: s => some ((x = 0 ∨ (3 ≤ x ∧ x < 29)) ∧ (y = 0 ∨ (3 ≤ y ∧ y < 29)), mx_qa cc x y, s) | _ => none) = some (P, cd, st') := hbr
    split at hB2
    · rename_i y1 x1 t
      simp only [Option.some.injEq, Prod.mk.injEq] at hB2
      obtain ⟨rfl, rfl, rfl⟩ := hB2
      have hij := mx_word_inj hST hP.1 hP.2
      change W _ _ _ _ _ _ _ _ _ _ _ _ _ _ _ (F0 _ _ _ (mx_rc G y1 :: mx_rc G x1 :: _))
      rw [← mx_ro_rf G hG y1, ← mx_ro_rf G hG x1]
      cases cc
      · exact lv_acmp_eq hx hb hd htg (fun q => zt (hij.mp q)) (fun q => zf (fun q2 => q (hij.mpr q2)))
      · exact lv_acmp_ne hx hb hd htg (fun q => zt (fun q2 => q (hij.mpr q2))) (fun q => zf (fun q2 => q2 (hij.mp q)))
    · cases hB2
  case ifnull off =>
    obtain ⟨rfl, hnx⟩ := hn 3 rfl
    have htg := mx_pc_of (of_decide_eq_true ho : mx_pcs (mxC y) (r.headD 0) = (pc : Int) + off) (mx_in (of_decide_eq_true hswo))
    have zf : ¬ cd → W p l e R s m args below meth c H locs (mx_cs h - mx_cs h0) (mx_n h - mx_n h0) Q (F0 m (pc + 3) la (st'.map (mx_rv G))) := fun q => by have z := kf q H locs la hR hS hL; rw [hnx] at z; exact z
    have hB2 : (match (generalizing := false) st with | .ref x :: s => some (¬ x = 29, x = 0, s) | _ => none) = some (P, cd, st') := hbr
    split at hB2
    · rename_i x1 t
      simp only [Option.some.injEq, Prod.mk.injEq] at hB2
      obtain ⟨rfl, rfl, rfl⟩ := hB2
      change W _ _ _ _ _ _ _ _ _ _ _ _ _ _ _ (F0 _ _ _ (mx_rc G x1 :: _))
      by_cases hx0 : x1 = 0
      · subst hx0
        rw [mx_rc_null]
        exact lv_ifnullN hx hb hd htg (zt rfl)
      · by_cases hxl : x1 < 100
        · rw [mx_rc_const G hx0 hP hxl]
          exact lv_ifnull hx hb hd (zf hx0)
        · rw [mx_rc_obj G (Nat.le_of_not_lt hxl)]
          exact lv_ifnull hx hb hd (zf hx0)
    · cases hB2
  all_goals exact absurd (show (none : Option (Prop × Prop × List Value)) = some _ from hbr) (fun q => by cases q)
end SND9
