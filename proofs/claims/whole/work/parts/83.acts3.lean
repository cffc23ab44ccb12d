/-! ACTS 3: stones and the log; pass, lay, lift -/
theorem CpN_st {v v' : Nat → Nat → Int32} {r r' : Nat → Int32} {np ns nl z : Nat} (C : CpN v r np ns nl) (hz : z < ns) (hv : ∀ k j, inV k j → ¬ ((k = 10 ∨ k = 11 ∨ k = 12) ∧ j = z) → v' k j = v k j) (hr : ∀ k, k < 369 → k ≠ 1 → k ≠ 2 → ¬ (69 + 6 * z + 2 ≤ k ∧ k ≤ 69 + 6 * z + 5) → r' k = r k) (n0 : v' 10 z = r' (69 + 6 * z + 2)) (n0' : isR (r' (69 + 6 * z + 2)) 1 40) (n1 : v' 11 z = r' (69 + 6 * z + 3)) (n2 : r' (69 + 6 * z + 3) = 0 → v' 12 z = r' (69 + 6 * z + 4)) (n3 : r' (69 + 6 * z + 3) = 1 → v' 12 z = r' (69 + 6 * z + 5)) (n4 : isR (r' (69 + 6 * z + 3)) 0 2) (n5 : isI (r' (69 + 6 * z + 4)) (nI np)) (n6 : r' (69 + 6 * z + 3) = 1 → isR (r' (69 + 6 * z + 5)) 0 11) : CpN v' r' np ns nl := by
  have hn := C.1.2.1
  have hp := C.1.1
  have hl := C.1.2.2.1
  refine ⟨Cp0_c (hv 1 0 (by unfold inV; omega) (by omega)) (hv 7 0 (by unfold inV; omega) (by omega)) (hv 13 0 (by unfold inV; omega) (by omega)) (hr 3 (by omega) (by omega) (by omega) (by omega)) (hr 4 (by omega) (by omega) (by omega) (by omega)) (hr 7 (by omega) (by omega) (by omega) (by omega)) C.1, Cp1_c (hv 0 5 (by unfold inV; omega) (by omega)) (hv 0 6 (by unfold inV; omega) (by omega)) (hv 0 7 (by unfold inV; omega) (by omega)) (hv 0 8 (by unfold inV; omega) (by omega)) (hr 0 (by omega) (by omega) (by omega) (by omega)) (hr 5 (by omega) (by omega) (by omega) (by omega)) (hr 6 (by omega) (by omega) (by omega) (by omega)) (hr 8 (by omega) (by omega) (by omega) (by omega)) C.2.1, Cp2_c (hv 0 4 (by unfold inV; omega) (by omega)) (fun p hp => hv 15 p (by unfold inV; omega) (by omega)) (fun k k1 k2 => hr k (by omega) (by omega) (by omega) (by omega)) C.2.2.1, CpU_c hp (hv 1 6 (by unfold inV; omega) (by omega)) (fun k x k1 k2 hx => hv k x (by unfold inV; omega) (by omega)) (fun k k1 k2 => hr k (by omega) (by omega) (by omega) (by omega)) C.2.2.2.1, fun y hy => ?_, CpL_c hl (fun j hj => hv 14 j (by unfold inV; omega) (by omega)) (fun k k1 k2 => hr k (by omega) (by omega) (by omega) (by omega)) C.2.2.2.2.2⟩
  obtain ⟨a1, a2, a3, a4, a5, a6, a7, a8, a9, a10, a11, a12⟩ := C.2.2.2.2.1 y hy
  rw [hv 8 y (by unfold inV; omega) (by omega), hv 9 y (by unfold inV; omega) (by omega), hr (69 + 6 * y + 0) (by omega) (by omega) (by omega) (by omega), hr (69 + 6 * y + 1) (by omega) (by omega) (by omega) (by omega)]
  by_cases hyz : y = z
  · subst hyz
    exact ⟨a1, a2, n0, n1, n2, n3, a7, a8, n0', n4, n5, n6⟩
  · rw [hv 10 y (by unfold inV; omega) (by omega), hv 11 y (by unfold inV; omega) (by omega), hv 12 y (by unfold inV; omega) (by omega), hr (69 + 6 * y + 2) (by omega) (by omega) (by omega) (by omega), hr (69 + 6 * y + 3) (by omega) (by omega) (by omega) (by omega), hr (69 + 6 * y + 4) (by omega) (by omega) (by omega) (by omega), hr (69 + 6 * y + 5) (by omega) (by omega) (by omega) (by omega)]
    exact ⟨a1, a2, a3, a4, a5, a6, a7, a8, a9, a10, a11, a12⟩
/-- a row of the log more -/
theorem CpN_log {h : mxH} {a z np ns nl : Nat} {r : Nat → Int32} {act wt : Int32} (C : CpN (vw h a) r np ns nl) (hz : z < 10) (hw : wt = mx_i h (a + 10) z) : CpN (vw (W_104 h a (nI z) act) a) (mLog r (nI z) act wt) np ns (min (nl + 1) 60) := by
  have hl := C.1.2.2.1
  have hp := C.1.1
  have hn := C.1.2.1
  have e : W_104 h a (nI z) act = W_2 h a (mx_i h a 6) (nI z) act wt := by
    unfold W_104
    rw [nI_clamp (by omega), ← hw]
  rw [e]
  have u := w2_U (h := h) (a := a) (x0 := mx_i h a 6) (x1 := nI z) (x2 := act) (x3 := wt)
  obtain ⟨L, e13⟩ := CpL_log (h1 := W_2 h a (mx_i h a 6) (nI z) act wt) (r' := mLog r (nI z) act wt) hl (C_l C) C.2.2.2.2.2 rfl rfl (C_hour C) (fun _ _ _ => rfl)
  have hv : ∀ k j, k ≠ 13 → k ≠ 14 → vw (W_2 h a (mx_i h a 6) (nI z) act wt) a k j = vw h a k j := fun k j k1 k2 => by
    show mx_i (W_2 h a (mx_i h a 6) (nI z) act wt) (a + k) j = mx_i h (a + k) j
    rw [mxU_i u (by omega)]
  have hr : ∀ k, k < 129 → k ≠ 7 → mLog r (nI z) act wt k = r k := fun k k1 k2 => mLog_lo k2 (.inl k1)
  refine ⟨⟨hp, hn, by omega, ?_, ?_, mLog_7 (C_nl C) hl, ?_, ?_, e13⟩, Cp1_c (hv 0 5 (by omega) (by omega)) (hv 0 6 (by omega) (by omega)) (hv 0 7 (by omega) (by omega)) (hv 0 8 (by omega) (by omega)) (hr 0 (by omega) (by omega)) (hr 5 (by omega) (by omega)) (hr 6 (by omega) (by omega)) (hr 8 (by omega) (by omega)) C.2.1, Cp2_c (hv 0 4 (by omega) (by omega)) (fun p hp => hv 15 p (by omega) (by omega)) (fun k k1 k2 => hr k (by omega) (by omega)) C.2.2.1, CpU_c hp (hv 1 6 (by omega) (by omega)) (fun k x k1 k2 hx => hv k x (by omega) (by omega)) (fun k k1 k2 => hr k (by omega) (by omega)) C.2.2.2.1, CpS_c hn (fun k x k1 k2 hx => hv k x (by omega) (by omega)) (fun k k1 k2 => hr k (by omega) (by omega)) C.2.2.2.2.1, L⟩
  · rw [hr 3 (by omega) (by omega)]; exact C_np C
  · rw [hr 4 (by omega) (by omega)]; exact C_ns C
  · rw [hv 1 0 (by omega) (by omega)]; exact C_p C
  · rw [hv 7 0 (by omega) (by omega)]; exact C_s C
theorem w104_U {h : mxH} {a : Nat} {i1 i2 : Int32} : mxU (fun b => b = a + 13 ∨ b = a + 14) h (W_104 h a i1 i2) := by
  unfold W_104; exact w2_U
/-- the reference's row, written anew -/
theorem w199 {h : mxH} {r : Nat → Int32} {z k : Nat} {v : Int32} (hz : z < 100) (hk : k < 6) : W_199 (mx_wrow h 382 r) (nI z) (nI k) v = mx_wrow h 382 (fun j => if j = 69 + 6 * z + k then v else r j) := by
  unfold W_199
  rw [ixS, nI_clamp (by omega), wi_wrow]
theorem agr_wrow' {P : Nat → Prop} {h h1 : mxH} {a : Nat} {f : Nat → Int32} (e : h1 = mx_wrow h a f) (hp : P a) : agr P h h1 := e ▸ agr_wrow hp
theorem bq_wrow' {h h1 : mxH} {a : Nat} {f : Nat → Int32} (e : h1 = mx_wrow h a f) : bq h h1 := e ▸ ⟨rfl, rfl⟩
/-- the state ahead of what changes, after the class has remembered -/
theorem C_rem {LW : mxLW} {h h1 : mxH} {vn vd vr vq np ns nl : Nat} (I : Inv LW h vn vd vr vq np ns nl) (R1 : rmC vn h h1) : CpN (vw h1 vn) (mx_i h 382) np ns nl := CpN_congr (fun k j hk => by
  show mx_i h1 (vn + k) j = mx_i h (vn + k) j
  rw [R1_vn R1 (S_vn I.2.1) (by unfold inV at hk; omega)]) (fun _ _ _ _ => rfl) I.2.2.1
theorem C_hi {h h5 hc : mxH} {vn np ns nl : Nat} {r : Nat → Int32} (C : CpN (vw hc vn) r np ns nl) (e : ∀ k, k < 16 → mx_i h5 (vn + k) = mx_i hc (vn + k)) (er : ∀ k, k < 369 → k ≠ 1 → k ≠ 2 → mx_i h5 382 k = r k) : CpN (vw h5 vn) (mx_i h5 382) np ns nl := CpN_congr (fun k j hk => by
  show mx_i h5 (vn + k) j = mx_i hc (vn + k) j
  rw [e k (by unfold inV at hk; omega)]) er C
theorem op_pass {LW : mxLW} (ok : LWok LW) (i1 i2 : Int32) : Op LW 146 256 [.int i1, .int i2] (fun k => if k = 2 then 1 else if k = 0 then 2 else if k = 4 then 3 else 0) := by
  intro h vn vd vr vq np ns nl I
  have C := I.2.2.1
  have h6 := C_np6 C
  have h10 := C_ns10 C
  have hvn := S_vn I.2.1
  obtain ⟨rf, rc, ra⟩ := I_rem I
  have n0 : (0 : Int32) ≤ mx_i h 382 3 := C_np C ▸ nI0 (by omega)
  have s0 : (0 : Int32) ≤ mx_i h 382 4 := C_ns C ▸ nI0 (by omega)
  -- refused at once
  have no : (¬ isI i1 (mx_i h 382 4) ∨ ¬ isI i2 (mx_i h 382 3)) → ∀ hm, mdl (mx_ex h) hm → mx_wp 500 256 0 (mx_fr 256 [.ref 381, .int i1, .int i2]) [] hm (fun o2 h2 => ∃ b, o2 = .inl (some (.int b)) ∧ ansOk (fun k => if k = 2 then 1 else if k = 0 then 2 else if k = 4 then 3 else 0) (.inr 2) b (mx_i h2 381 0) ∧ bud h h2 ∧ ∃ vn vd vr vq np ns nl, Inv LW h2 vn vd vr vq np ns nl) := by
    intro hc hm hmd
    have em : mx_i hm 382 = mx_i h 382 := md_382 hmd 382
    refine tr_256_0 (agr_G (P := fun _ => False) (agr_mdl hmd) (mxG_ex I.1)) ⟨v01, ⟨fun _ => trivial, fun _ => ⟨v01, trivial⟩⟩, fun v2 e2 h3 e3 => ?_⟩
    have e2 : v2 = 1 := by
      rw [em] at e2
      unfold V_200 V_201 at e2
      rcases hc with hc | hc
      · rw [v191_n s0 hc] at e2; simpa using e2
      · rw [v191_n (x := i2) n0 hc] at e2; simpa using e2
    subst e2
    subst e3
    rw [thr0]
    exact ⟨fun _ => op_fin ok I (smr_tr smr_ex (smr_mdl hmd)) (bud_ex hmd) ⟨rfl, by decide⟩, fun q => absurd (by decide) q⟩
  -- what the reference does with a stone and a person
  have go : ∀ (z x : Nat), z < ns → x < np → i1 = nI z → i2 = nI x → ∀ (hm : mxH) (Q : mxO → mxH → Prop), mxG hm → mx_i hm 382 = mx_i h 382 → (∀ v10 h11, v10 = (if mx_i h 382 (69 + 6 * z + 3) = 0 then (if mx_i h 382 (69 + 6 * z + 4) = nI x then 2 else if V_196 (mx_i h 382) (nI x) 2 = V_196 (mx_i h 382) (mx_i h 382 (69 + 6 * z + 4)) 2 then 0 else 3) else 3 : Int32) → h11 = mx_wi hm 381 0 v10 → (0 < v10 → Q (.inl (some (.int 0))) h11) ∧ (¬ 0 < v10 → (cB (mx_i h11 381 6) 12 ∧ (∀ h17, rmM h11 h17 → (∀ h21, h21 = mx_wrow h17 382 (mLog (mx_i h17 382) i1 3 (V_198 (mx_i h17 382) i1 2)) → (∀ h25, h25 = W_199 h21 i1 4 i2 → Q (.inl (some (.int (mx_i h 382 (69 + 6 * z + 4))))) h25)))))) → mx_wp 500 256 0 (mx_fr 256 [.ref 381, .int i1, .int i2]) [] hm Q := by
    intro z x hz hx e1 e2' hm Q Gm em kk
    subst e1 e2'
    have c : isI (nI z) (mx_i h 382 4) := by rw [C_ns C]; exact nI_isI hz (by omega)
    have c2 : isI (nI x) (mx_i h 382 3) := by rw [C_np C]; exact nI_isI hx (by omega)
    refine tr_256_0 Gm ⟨v01, ⟨fun _ => trivial, fun _ => ⟨v01, trivial⟩⟩, fun v2 e2 h3 e3 => ?_⟩
    have e2 : v2 = 0 := by
      rw [em] at e2
      unfold V_200 V_201 at e2
      rw [v191_y s0 c, v191_y (x := nI x) n0 c2] at e2; simpa using e2
    subst e2
    subst e3
    obtain ⟨y, hy, ey⟩ := isI_nI (by omega) (Cs_b C hz)
    rw [thr0, thr382, em, w3 (by omega), w4 (by omega)]
    refine ⟨fun q => absurd q (by decide), fun _ => ⟨vpS (by omega), fun v8 e8 => ⟨vpS (by omega), ?_, fun v10 e10 h11 e11 => ?_⟩⟩⟩
    · refine ⟨fun _ => ⟨fun _ => trivial, fun _ => ⟨vpU (by omega), ?_, trivial⟩⟩, fun _ => ⟨fun _ => trivial, fun _ => ⟨fun _ => trivial, fun _ => ⟨vpU (by omega), ?_, trivial⟩⟩⟩⟩
      · rw [ey]; exact vpU (by omega)
      · rw [ey]; exact vpU (by omega)
    · have e11' : h11 = mx_wi hm 381 0 v10 := by
        rw [e11]
        unfold mx_wi
        have : mx_up (mx_i (h.1, h.2.1, h.2.2.1, mx_i h, mx_r h, mx_l h)) 381 0 v10 = mx_up (mx_i h) 381 0 v10 := rfl
        show (hm.1, hm.2.1, hm.2.2.1, mx_up (mx_up (mx_i hm) 381 0 0) 381 0 v10, mx_r hm, mx_l hm) = _
        have e : mx_up (mx_up (mx_i hm) 381 0 0) 381 0 v10 = mx_up (mx_i hm) 381 0 v10 := by
          funext b j
          unfold mx_up
          by_cases q : b = 381 ∧ j = 0 <;> simp [q]
        rw [e]
      have t11 : mx_i h11 381 0 = v10 := by rw [e11', thr0]
      rw [t11]
      have e10' : v10 = (if mx_i h 382 (69 + 6 * z + 3) = 0 then (if mx_i h 382 (69 + 6 * z + 4) = nI x then 2 else if V_196 (mx_i h 382) (nI x) 2 = V_196 (mx_i h 382) (mx_i h 382 (69 + 6 * z + 4)) 2 then 0 else 3) else 3 : Int32) := by
        rw [e10, e8]
        by_cases q : mx_i h 382 (69 + 6 * z + 3) = 0 <;> simp [q]
      obtain ⟨k1, k2⟩ := kk v10 h11 e10' e11'
      refine ⟨k1, fun q => ?_⟩
      obtain ⟨k3, k4⟩ := k2 q
      exact ⟨k3, fun h17 R17 => ⟨vpS (by omega), fun h21 e21 h25 e25 => k4 h17 R17 h21 e21 h25 e25⟩⟩
  refine tr_146_0 I.1 I.2.1 ⟨fun c => ⟨fun c2 => ?_, fun c2 => no (.inr (by rw [C_np C, ← C_p C]; exact c2))⟩, fun c => no (.inl (by rw [C_ns C, ← C_s C]; exact c))⟩
  rw [C_s C] at c
  rw [C_p C] at c2
  obtain ⟨z, hz, rfl⟩ := isI_nI (by omega) c
  obtain ⟨x, hx, rfl⟩ := isI_nI (by omega) c2
  have cz : (nI z).toNatClampNeg = z := nI_clamp (by omega)
  have cx : (nI x).toNatClampNeg = x := nI_clamp (by omega)
  have hxm : ¬ (-1 : Int32) = nI x := fun e => absurd (e ▸ nI0 (n := x) (by omega)) (by decide)
  rw [cm_bearer C hz, cz, cx]
  obtain ⟨y, hy, ey⟩ := isI_nI (by omega) (Cs_b C hz)
  have hym : ¬ nI y = (-1 : Int32) := fun e => absurd (e ▸ nI0 (n := y) (by omega)) (by decide)
  -- thrown later
  have late : ∀ (k : Nat) (t : Int32), 0 < t → ((fun k => if k = 2 then 1 else if k = 0 then 2 else if k = 4 then 3 else 0 : Nat → Int32) k = t) → t = (if mx_i h 382 (69 + 6 * z + 3) = 0 then (if mx_i h 382 (69 + 6 * z + 4) = nI x then 2 else if V_196 (mx_i h 382) (nI x) 2 = V_196 (mx_i h 382) (mx_i h 382 (69 + 6 * z + 4)) 2 then 0 else 3) else 3 : Int32) → ∀ hm, mdl (mx_ex h) hm → mx_wp 500 256 0 (mx_fr 256 [.ref 381, .int (nI z), .int (nI x)]) [] hm (fun o2 h2 => ∃ b, o2 = .inl (some (.int b)) ∧ ansOk (fun k => if k = 2 then 1 else if k = 0 then 2 else if k = 4 then 3 else 0) (.inr k) b (mx_i h2 381 0) ∧ bud h h2 ∧ ∃ vn vd vr vq np ns nl, Inv LW h2 vn vd vr vq np ns nl) := by
    intro k t ht hk et hm hmd
    refine go z x hz hx rfl rfl hm _ (agr_G (P := fun _ => False) (agr_mdl hmd) (mxG_ex I.1)) (md_382 hmd 382) (fun v10 h11 e10 e11 => ?_)
    have : v10 = t := by rw [e10, et]
    subst this
    refine ⟨fun _ => ?_, fun q => absurd ht q⟩
    subst e11
    refine op_fin ok I (smr_tr smr_ex (smr_mdl hmd)) (bud_ex hmd) ⟨hk.symm, ?_⟩
    rw [hk]; exact fun e => absurd (e ▸ ht) (by decide)
  refine ⟨vp_in_nI (by omega) (by decide), fun q => ?_, fun q => ⟨fun q2 => ?_, fun q2 => ?_⟩⟩
  · -- worn by that one
    have e0 : mx_i h 382 (69 + 6 * z + 3) = 0 := by
      apply Classical.byContradiction
      intro e; rw [if_neg e] at q; exact hxm q
    rw [if_pos e0] at q
    exact late 0 2 (by decide) (by decide) (by rw [if_pos e0, if_pos q])
  · have e0 : ¬ mx_i h 382 (69 + 6 * z + 3) = 0 := by
      intro e; rw [if_pos e, ey] at q2; exact hym q2
    exact late 4 3 (by decide) (by decide) (by rw [if_neg e0])
  · have e0 : mx_i h 382 (69 + 6 * z + 3) = 0 := by
      apply Classical.byContradiction
      intro e; rw [if_neg e] at q2; exact q2 rfl
    rw [if_pos e0] at q ⊢
    have cy : (mx_i h 382 (69 + 6 * z + 4)).toNatClampNeg = y := by rw [ey, nI_clamp (by omega)]
    rw [cy, Cu4 C hy, Cu4 C hx]
    have ep : (V_196 (mx_i h 382) (nI x) 2 = V_196 (mx_i h 382) (mx_i h 382 (69 + 6 * z + 4)) 2) = (mx_i h 382 (33 + 6 * y + 2) = mx_i h 382 (33 + 6 * x + 2)) := by
      rw [ey, u2 (by omega), u2 (by omega)]
      exact propext ⟨Eq.symm, Eq.symm⟩
    refine ⟨by rw [ey]; exact vp_in_nI (by omega) (by decide), vp_in_nI (by omega) (by decide), fun q3 => ⟨rf, rc, fun h12 R1 => ⟨?_, fun h17 e17 h22 e22 hm hmd => ?_⟩⟩, fun q3 => late 4 3 (by decide) (by decide) (by rw [if_pos e0, if_neg q, if_neg (by rw [ep]; exact q3)])⟩
    · exact lg_pre ⟨nl, C_nl60 C, by rw [R1_vn R1 hvn (by omega)]; exact C_l C⟩
    · have C12 := C_rem I R1
      have CL := CpN_log (z := z) (act := 3) C12 (by omega) rfl
      have u2' : agr (fun b => vn ≤ b ∧ b < vn + 16) h12 hm := agr_tr (agr_mono (fun b hb => by omega) (agr_U (e17 ▸ w104_U (a := vn) (i1 := nI z) (i2 := 3)))) (agr_tr (agr_wi' e22 (by omega)) (agr_mdl hmd))
      have b2' : bq h12 hm := bq_tr (bq_U (P := fun b => b = vn + 13 ∨ b = vn + 14) (e17 ▸ w104_U)) (bq_tr (bq_wi' e22) (bq_mdl hmd))
      have em : mx_i hm 382 = mx_i h 382 := by rw [u2'.2.2 382 (by omega), R1_hi R1 (by omega)]
      refine go z x hz hx rfl rfl hm _ (agr_G u2' (mxU_G R1.1 I.1)) em (fun v10 h11 e10 e11 => ?_)
      have e10 : v10 = 0 := by rw [e10, if_pos e0, if_neg q, if_pos (by rw [ep]; exact q3)]
      subst e10
      have t11 : mx_i h11 381 0 = 0 := by rw [e11, thr0]
      have f11 : ∀ j, j ≠ 0 → mx_i h11 381 j = mx_i hm 381 j := fun j hj => by rw [e11, wi_nj hj]
      refine ⟨fun q => absurd q (by decide), fun _ => ⟨?_, fun h17' R4 h21 e21 h25 e25 => ?_⟩⟩
      · rw [f11 6 (by decide), u2'.2.2 381 (by omega), R1_hi R1 (by omega)]; exact ra
      · have em9 : mx_i h17' 382 = mx_i h 382 := by rw [R4_382 R4, e11, thr382, em]
        rw [em9, w2 (by omega)] at e21
        have ew : mx_i h12 (vn + 10) z = mx_i h 382 (69 + 6 * z + 2) := Cs10 C12 hz
        rw [ew] at CL
        subst e21
        rw [show (4 : Int32) = nI 4 from rfl, w199 (by omega) (by omega)] at e25
        have CN : CpN (vw h25 vn) (mx_i h25 382) np ns (min (nl + 1) 60) := by
          have ek : ∀ k, k < 16 → mx_i h25 (vn + k) = mx_i h22 (vn + k) := fun k hk => by
            rw [e25, wrow_ne (by omega), R4_lo R4 (by omega), e11, wi_ne (by omega), md_382 hmd]
          have e25r : mx_i h25 382 = fun j => if j = 69 + 6 * z + 4 then nI x else mLog (mx_i h 382) (nI z) 3 (mx_i h 382 (69 + 6 * z + 2)) j := by rw [e25, wrow_at]
          have lo : ∀ k, k < 129 → k ≠ 7 → mLog (mx_i h 382) (nI z) 3 (mx_i h 382 (69 + 6 * z + 2)) k = mx_i h 382 k := fun k k1 k2 => mLog_lo k2 (.inl k1)
          refine C_hi (h := h) (hc := h22) ?_ ek (fun _ _ _ _ => rfl)
          rw [e25r]
          refine CpN_st (z := z) CL hz (fun k j hk hj => ?_) (fun k k1 k2 k3 k4 => by rw [if_neg (by omega)]) ?_ ?_ ?_ ?_ ?_ ?_ ?_ ?_
          · show mx_i h22 (vn + k) j = mx_i (W_104 h12 vn (nI z) 3) (vn + k) j
            rw [e22, wi_i, if_neg (by omega), e17]
          · show mx_i h22 (vn + 10) z = _
            rw [if_neg (by omega), e22, wi_ne (by omega), e17, mxU_i w104_U (by omega), lo _ (by omega) (by omega)]; exact ew
          · rw [if_neg (by omega), lo _ (by omega) (by omega)]; exact Cs_w C hz
          · show mx_i h22 (vn + 11) z = _
            rw [if_neg (by omega), e22, wi_ne (by omega), e17, mxU_i w104_U (by omega), lo _ (by omega) (by omega)]; exact Cs11 C12 hz
          · intro _
            show mx_i h22 (vn + 12) z = _
            rw [if_pos rfl, e22, wi_at rfl rfl]
          · intro e
            rw [if_neg (by omega), lo _ (by omega) (by omega), e0] at e
            exact absurd e (by decide)
          · rw [if_neg (by omega), lo _ (by omega) (by omega)]; exact Cs_s C hz
          · rw [if_pos rfl]; exact nI_isI hx (by omega)
          · intro e
            rw [if_neg (by omega), lo _ (by omega) (by omega), e0] at e
            exact absurd e (by decide)
        refine act_fin ok I R1 u2' b2' (agr_wi' e11 rfl) (bq_wi' e11) f11 t11 R4 (agr_wrow' e25 rfl) (bq_wrow' e25) (fun k hk => ?_) CN ?_
        · rw [e25, wrow_at, if_neg (by omega), mLog_lo (by omega) (by omega), em9]
        · rfl
