/-! ACTS 4: rest, lay, lift -/
theorem bt_clr {v : Int32} {x i : Nat} (hx : x < 32) (hi : i < 32) : bt (v &&& (((1 : Int32) <<< (nI x &&& 31)) ^^^ (-1))) i = (bt v i && !decide (i = x)) := by
  rw [bt_m1x hi, b_one hx hi]
theorem op_rest {LW : mxLW} (ok : LWok LW) (i1 : Int32) : Op LW 150 260 [.int i1] (fun k => if k = 2 then 1 else 0) := by
  intro h vn vd vr vq np ns nl I
  have C := I.2.2.1
  have h6 := C_np6 C
  have hvn := S_vn I.2.1
  obtain ⟨rf, rc, ra⟩ := I_rem I
  have n0 : (0 : Int32) ≤ mx_i h 382 3 := C_np C ▸ nI0 (by omega)
  refine tr_150_0 I.1 I.2.1 ⟨fun c => ⟨rf, rc, fun h5 R1 => ⟨?_, fun h10 e10 h14 e14 hm hmd => ?_⟩⟩, fun c hm hmd => ?_⟩
  · rw [C_p C] at c
    exact vp_of_isI (by omega) (by decide) h6 c
  · rw [C_p C] at c
    have c' : isI i1 (mx_i h 382 3) := by rw [C_np C]; exact c
    obtain ⟨x, hx, rfl⟩ := isI_nI (by omega) c
    rw [nI_clamp (by omega)] at e10 ⊢
    unfold W_51 at e14
    have u2 : agr (fun b => vn ≤ b ∧ b < vn + 16) h5 hm := agr_tr (agr_wi' e10 (by omega)) (agr_tr (agr_wi' e14 (by omega)) (agr_mdl hmd))
    have em : mx_i hm 382 = mx_i h 382 := by rw [u2.2.2 382 (by omega), R1_hi R1 (by omega)]
    refine tr_260_0 (agr_G u2 (mxU_G R1.1 I.1)) ⟨v01, fun v2 e2 h3 e3 => ?_⟩
    have e2 : v2 = 0 := by
      rw [em] at e2
      unfold V_200 at e2
      rw [v191_y n0 c'] at e2; simpa using e2
    subst e2
    have t3 : mx_i h3 381 0 = 0 := by rw [e3, thr0]
    have f3 : ∀ j, j ≠ 0 → mx_i h3 381 j = mx_i hm 381 j := fun j hj => by rw [e3, wi_nj hj]
    have a3 : mx_i h3 381 6 = mx_i h 381 6 := by rw [f3 6 (by decide), u2.2.2 381 (by omega), R1_hi R1 (by omega)]
    rw [t3]
    refine ⟨fun q => absurd q (by decide), fun _ => ⟨a3 ▸ ra, fun h9 R4 => ⟨vpU (by omega), fun h13 e13 => ⟨vpU (by omega), fun h18 e18 => ?_⟩⟩⟩⟩
    have em9 : mx_i h9 382 = mx_i h 382 := by rw [R4_382 R4, e3, thr382, em]
    unfold W_197 at e13 e18
    rw [show (4 : Int32) = nI 4 from rfl, ixU, nI_clamp (by omega)] at e13
    rw [show (5 : Int32) = nI 5 from rfl, ixU, nI_clamp (by omega)] at e18
    have er : ∀ k, k ≠ 33 + 6 * x + 4 → k ≠ 33 + 6 * x + 5 → mx_i h18 382 k = mx_i h 382 k := fun k hk hk5 => by rw [e18, wi_nj hk5, e13, wi_nj hk, em9]
    have er4 : mx_i h18 382 (33 + 6 * x + 4) = 0 := by rw [e18, wi_nj (by omega), e13, wi_at rfl rfl]
    have er5 : mx_i h18 382 (33 + 6 * x + 5) = 0 := by rw [e18, wi_at rfl rfl]
    have eb : ∀ b, b < 381 → mx_i h18 b = mx_i h14 b := fun b hb => by
      rw [e18, wi_ne (by omega), e13, wi_ne (by omega), R4_lo R4 hb, e3, wi_ne (by omega), md_382 hmd]
    have ev : ∀ k, k < 16 → ∀ j, ¬ (k = 6 ∧ j = x) → ¬ (k = 1 ∧ j = 6) → vw h18 vn k j = vw h vn k j := fun k hk j hj hj2 => by
      show mx_i h18 (vn + k) j = mx_i h (vn + k) j
      rw [eb _ (by omega), e14, wi_i, if_neg (by omega), e10, wi_i, if_neg (by omega), R1_vn R1 hvn hk]
    have ev6 : vw h18 vn 6 x = 0 := by
      show mx_i h18 (vn + 6) x = 0
      rw [eb _ (by omega), e14, wi_ne (by omega), e10, wi_at rfl rfl]
    have evh : vw h18 vn 1 6 = mx_i h (vn + 1) 6 &&& (((1 : Int32) <<< (nI x &&& 31)) ^^^ (-1)) := by
      show mx_i h18 (vn + 1) 6 = _
      rw [eb _ (by omega), e14, wi_at rfl rfl, e10, wi_ne (by omega), R1_vn R1 hvn (by omega)]
    have CN : CpN (vw h18 vn) (mx_i h18 382) np ns nl := by
      refine ⟨Cp0_c (ev 1 (by omega) 0 (by omega) (by omega)) (ev 7 (by omega) 0 (by omega) (by omega)) (ev 13 (by omega) 0 (by omega) (by omega)) (er 3 (by omega) (by omega)) (er 4 (by omega) (by omega)) (er 7 (by omega) (by omega)) C.1, Cp1_c (ev 0 (by omega) 5 (by omega) (by omega)) (ev 0 (by omega) 6 (by omega) (by omega)) (ev 0 (by omega) 7 (by omega) (by omega)) (ev 0 (by omega) 8 (by omega) (by omega)) (er 0 (by omega) (by omega)) (er 5 (by omega) (by omega)) (er 6 (by omega) (by omega)) (er 8 (by omega) (by omega)) C.2.1, Cp2_c (ev 0 (by omega) 4 (by omega) (by omega)) (fun p hp => ev 15 (by omega) p (by omega) (by omega)) (fun k k1 k2 => er k (by omega) (by omega)) C.2.2.1, ?_, CpS_c (C_ns10 C) (fun k z k1 k2 hz => ev k (by omega) z (by omega) (by omega)) (fun k k1 k2 => er k (by omega) (by omega)) C.2.2.2.2.1, CpL_c (C_nl60 C) (fun j hj => ev 14 (by omega) j (by omega) (by omega)) (fun k k1 k2 => er k (by omega) (by omega)) C.2.2.2.2.2⟩
      refine ⟨?_, fun y hy => ?_⟩
      · rw [evh]
        obtain ⟨B, hB, eB⟩ := C.2.2.2.1.1
        have eB : mx_i h (vn + 1) 6 = nI B := eB
        have : mx_i h (vn + 1) 6 &&& (((1 : Int32) <<< (nI x &&& 31)) ^^^ (-1)) = orS np (fun i => bt (mx_i h (vn + 1) 6) i && !decide (i = x)) := by
          apply b_ext
          intro i hi
          rw [bt_clr (by omega) hi, bt_orS (by omega) _ hi]
          by_cases hin : i < np
          · simp [hin]
          · rw [eB, bt_nI hi, Nat.testBit_lt_two_pow (Nat.lt_of_lt_of_le hB (Nat.pow_le_pow_right (by decide) (by omega)))]
            simp
        rw [this]
        exact orS_nI (by omega) _
      · rw [evh, ev 2 (by omega) y (by omega) (by omega), ev 3 (by omega) y (by omega) (by omega), ev 4 (by omega) y (by omega) (by omega), ev 5 (by omega) y (by omega) (by omega), er (33 + 6 * y + 0) (by omega) (by omega), er (33 + 6 * y + 1) (by omega) (by omega), er (33 + 6 * y + 2) (by omega) (by omega), er (33 + 6 * y + 3) (by omega) (by omega)]
        obtain ⟨a1, a2, a3, a4, a5, a6, a7, a8, a9, a10, a11⟩ := C.2.2.2.1.2 y hy
        rw [tbv _ (by omega), bt_clr (by omega) (by omega)]
        by_cases hyx : y = x
        · subst hyx
          rw [ev6, er4, er5]
          exact ⟨a1, a2, a3, a4, rfl, by simp, a7, a8, a9, a10, by unfold isR; decide⟩
        · rw [ev 6 (by omega) y (by omega) (by omega), er (33 + 6 * y + 4) (by omega) (by omega), er (33 + 6 * y + 5) (by omega) (by omega)]
          refine ⟨a1, a2, a3, a4, a5, ?_, a7, a8, a9, a10, a11⟩
          rw [a6, tbv _ (by omega)]
          show (if bt (mx_i h (vn + 1) 6) y = true then (1 : Int32) else 0) = _
          simp [hyx]
    refine act_fin ok I R1 u2 (bq_tr (bq_wi' e10) (bq_tr (bq_wi' e14) (bq_mdl hmd))) (agr_wi' e3 rfl) (bq_wi' e3) f3 t3 R4 (agr_tr (agr_wi' e13 rfl) (agr_wi' e18 rfl)) (bq_tr (bq_wi' e13) (bq_wi' e18)) (fun k hk => by rw [e18, wi_nj (by omega), e13, wi_nj (by omega)]) CN ?_
    rw [R1_vn R1 hvn (by omega), Cu6 C hx, em9, u4 (by omega)]
  · rw [C_p C, ← C_np C] at c
    have em : mx_i hm 382 = mx_i h 382 := md_382 hmd 382
    refine tr_260_0 (agr_G (P := fun _ => False) (agr_mdl hmd) (mxG_ex I.1)) ⟨v01, fun v2 e2 h3 e3 => ?_⟩
    have e2 : v2 = 1 := by
      rw [em] at e2
      unfold V_200 at e2
      rw [v191_n n0 c] at e2; simpa using e2
    subst e2
    subst e3
    rw [thr0]
    exact ⟨fun _ => op_fin ok I (smr_tr smr_ex (smr_mdl hmd)) (bud_ex hmd) ⟨rfl, by decide⟩, fun q => absurd (by decide) q⟩
theorem op_lift {LW : mxLW} (ok : LWok LW) (i1 i2 : Int32) : Op LW 148 258 [.int i1, .int i2] (fun k => if k = 2 then 1 else if k = 4 then 2 else 0) := by
  intro h vn vd vr vq np ns nl I
  have C := I.2.2.1
  have h6 := C_np6 C
  have h10 := C_ns10 C
  have hvn := S_vn I.2.1
  obtain ⟨rf, rc, ra⟩ := I_rem I
  have n0 : (0 : Int32) ≤ mx_i h 382 3 := C_np C ▸ nI0 (by omega)
  have s0 : (0 : Int32) ≤ mx_i h 382 4 := C_ns C ▸ nI0 (by omega)
  -- what is thrown: t by the reference's own words
  have pre : ∀ hm : mxH, mx_i hm 382 = mx_i h 382 → ((V_191 (mx_i hm 382) i1 0 (mx_i hm 382 4 - 1) = 0 ∨ V_191 (mx_i hm 382) i1 0 (mx_i hm 382 4 - 1) = 1) ∧ ((V_201 (mx_i hm 382) i1 = 0 → True) ∧ (¬ V_201 (mx_i hm 382) i1 = 0 → ((V_191 (mx_i hm 382) i2 0 (mx_i hm 382 3 - 1) = 0 ∨ V_191 (mx_i hm 382) i2 0 (mx_i hm 382 3 - 1) = 1) ∧ ((V_200 (mx_i hm 382) i2 = 0 → True) ∧ (¬ V_200 (mx_i hm 382) i2 = 0 → (vp_in (69 + 6 * i1 + 3) 769 ∧ ((V_198 (mx_i hm 382) i1 3 = 1 → (vp_in (69 + 6 * i1 + 5) 769 ∧ (vp_in (33 + 6 * i2 + 2) 769 ∧ True))) ∧ (¬ V_198 (mx_i hm 382) i1 3 = 1 → True))))))))) := by
    intro hm em
    rw [em]
    refine ⟨v01, fun _ => trivial, fun q => ⟨v01, fun _ => trivial, fun q2 => ?_⟩⟩
    have c1 : isI i1 (mx_i h 382 4) := Classical.byContradiction (fun e => q (v191_n s0 e))
    have c2 : isI i2 (mx_i h 382 3) := Classical.byContradiction (fun e => q2 (v191_n n0 e))
    rw [C_ns C] at c1
    rw [C_np C] at c2
    obtain ⟨z, hz, rfl⟩ := isI_nI (by omega) c1
    obtain ⟨x, hx, rfl⟩ := isI_nI (by omega) c2
    exact ⟨vpS (by omega), fun _ => ⟨vpS (by omega), vpU (by omega), trivial⟩, fun _ => trivial⟩
  have no : ∀ (k : Nat) (t : Int32), 0 < t → ((fun k => if k = 2 then 1 else if k = 4 then 2 else 0 : Nat → Int32) k = t) → t = (if V_201 (mx_i h 382) i1 = 0 then 1 else if V_200 (mx_i h 382) i2 = 0 then 1 else if V_198 (mx_i h 382) i1 3 = 1 then (if V_198 (mx_i h 382) i1 5 = V_196 (mx_i h 382) i2 2 then 0 else 2) else 2 : Int32) → ∀ hm, mdl (mx_ex h) hm → mx_wp 500 258 0 (mx_fr 258 [.ref 381, .int i1, .int i2]) [] hm (fun o2 h2 => ∃ b, o2 = .inl (some (.int b)) ∧ ansOk (fun k => if k = 2 then 1 else if k = 4 then 2 else 0) (.inr k) b (mx_i h2 381 0) ∧ bud h h2 ∧ ∃ vn vd vr vq np ns nl, Inv LW h2 vn vd vr vq np ns nl) := by
    intro k t ht hk et hm hmd
    have em : mx_i hm 382 = mx_i h 382 := md_382 hmd 382
    obtain ⟨p1, p2⟩ := pre hm em
    refine tr_258_0 (agr_G (P := fun _ => False) (agr_mdl hmd) (mxG_ex I.1)) ⟨p1, p2, fun v2 e2 h3 e3 => ?_⟩
    rw [em] at e2
    have : v2 = t := by rw [e2, et]
    subst this
    subst e3
    rw [thr0]
    refine ⟨fun _ => op_fin ok I (smr_tr smr_ex (smr_mdl hmd)) (bud_ex hmd) ⟨hk.symm, ?_⟩, fun q => absurd ht q⟩
    rw [hk]; exact fun e => absurd (e ▸ ht) (by decide)
  refine tr_148_0 I.1 I.2.1 ⟨fun c => ⟨fun c2 => ?_, fun c2 => no 2 1 (by decide) (by decide) ?_⟩, fun c => no 2 1 (by decide) (by decide) ?_⟩
  · rw [C_s C] at c
    rw [C_p C] at c2
    have y1 : V_201 (mx_i h 382) i1 = 1 := by unfold V_201; exact v191_y s0 (by rw [C_ns C]; exact c)
    have y2 : V_200 (mx_i h 382) i2 = 1 := by unfold V_200; exact v191_y n0 (by rw [C_np C]; exact c2)
    obtain ⟨z, hz, rfl⟩ := isI_nI (by omega) c
    obtain ⟨x, hx, rfl⟩ := isI_nI (by omega) c2
    have cz : (nI z).toNatClampNeg = z := nI_clamp (by omega)
    have cx : (nI x).toNatClampNeg = x := nI_clamp (by omega)
    rw [cz, cx, Cs11 C hz, Cu4 C hx]
    refine ⟨vp_in_nI (by omega) (by decide), fun e1 => ⟨vp_in_nI (by omega) (by decide), ?_⟩, fun e1 => no 4 2 (by decide) (by decide) (by rw [y1, y2, if_neg (by decide), if_neg (by decide), w3 (by omega), if_neg e1])⟩
    rw [Cs12' C hz e1]
    refine ⟨fun e2 => ⟨rf, rc, fun h10' R1 => ⟨lg_pre ⟨nl, C_nl60 C, by rw [R1_vn R1 hvn (by omega)]; exact C_l C⟩, fun h15 e15 h20 e20 h24 e24 => ?_⟩⟩, fun e2 => no 4 2 (by decide) (by decide) (by rw [y1, y2, if_neg (by decide), if_neg (by decide), w3 (by omega), if_pos e1, w5 (by omega), u2 (by omega), if_neg e2])⟩
    have C12 := C_rem I R1
    have CL := CpN_log (z := z) (act := 5) C12 (by omega) rfl
    have ew : mx_i h10' (vn + 10) z = mx_i h 382 (69 + 6 * z + 2) := Cs10 C12 hz
    rw [ew] at CL
    have lo : ∀ k, k < 129 → k ≠ 7 → mLog (mx_i h 382) (nI z) 5 (mx_i h 382 (69 + 6 * z + 2)) k = mx_i h 382 k := fun k k1 k2 => mLog_lo k2 (.inl k1)
    -- the row that comes
    have CR : CpN (vw h24 vn) (fun j => if j = 69 + 6 * z + 4 then nI x else if j = 69 + 6 * z + 3 then 0 else mLog (mx_i h 382) (nI z) 5 (mx_i h 382 (69 + 6 * z + 2)) j) np ns (min (nl + 1) 60) := by
      refine CpN_st (z := z) CL hz (fun k j hk hj => ?_) (fun k k1 k2 k3 k4 => by rw [if_neg (by omega), if_neg (by omega)]) ?_ ?_ ?_ ?_ ?_ ?_ ?_ ?_
      · show mx_i h24 (vn + k) j = mx_i (W_104 h10' vn (nI z) 5) (vn + k) j
        rw [e24, wi_i, if_neg (by omega), e20, wi_i, if_neg (by omega), e15]
      · show mx_i h24 (vn + 10) z = _
        rw [if_neg (by omega), if_neg (by omega), e24, wi_ne (by omega), e20, wi_ne (by omega), e15, mxU_i w104_U (by omega), lo _ (by omega) (by omega)]; exact ew
      · rw [if_neg (by omega), if_neg (by omega), lo _ (by omega) (by omega)]; exact Cs_w C hz
      · show mx_i h24 (vn + 11) z = _
        rw [if_neg (by omega), if_pos rfl, e24, wi_ne (by omega), e20, wi_at rfl rfl]
      · intro _
        show mx_i h24 (vn + 12) z = _
        rw [if_pos rfl, e24, wi_at rfl rfl]
      · intro e
        rw [if_neg (by omega), if_pos rfl] at e
        exact absurd e (by decide)
      · rw [if_neg (by omega), if_pos rfl]; unfold isR; decide
      · rw [if_pos rfl]; exact nI_isI hx (by omega)
      · intro e
        rw [if_neg (by omega), if_pos rfl] at e
        exact absurd e (by decide)
    refine ⟨C_cs CR, fun hm hmd => ?_⟩
    have u2' : agr (fun b => vn ≤ b ∧ b < vn + 16) h10' hm := agr_tr (agr_mono (fun b hb => by omega) (agr_U (e15 ▸ w104_U (a := vn) (i1 := nI z) (i2 := 5)))) (agr_tr (agr_wi' e20 (by omega)) (agr_tr (agr_wi' e24 (by omega)) (agr_mdl hmd)))
    have b2' : bq h10' hm := bq_tr (bq_U (P := fun b => b = vn + 13 ∨ b = vn + 14) (e15 ▸ w104_U)) (bq_tr (bq_wi' e20) (bq_tr (bq_wi' e24) (bq_mdl hmd)))
    have em : mx_i hm 382 = mx_i h 382 := by rw [u2'.2.2 382 (by omega), R1_hi R1 (by omega)]
    obtain ⟨p1, p2⟩ := pre hm em
    refine tr_258_0 (agr_G u2' (mxU_G R1.1 I.1)) ⟨p1, p2, fun v2 e2v h3 e3 => ?_⟩
    have e2v : v2 = 0 := by
      rw [em, y1, y2, if_neg (by decide), if_neg (by decide), w3 (by omega), if_pos e1, w5 (by omega), u2 (by omega), if_pos e2] at e2v
      exact e2v
    subst e2v
    have t3 : mx_i h3 381 0 = 0 := by rw [e3, thr0]
    have f3 : ∀ j, j ≠ 0 → mx_i h3 381 j = mx_i hm 381 j := fun j hj => by rw [e3, wi_nj hj]
    rw [t3]
    refine ⟨fun q => absurd q (by decide), fun _ => ⟨?_, fun h9 R4 => ⟨vpS (by omega), fun h13 e13 => ⟨vpS (by omega), fun h18 e18 => ⟨vpS (by omega), fun h23 e23 => ?_⟩⟩⟩⟩⟩
    · rw [f3 6 (by decide), u2'.2.2 381 (by omega), R1_hi R1 (by omega)]; exact ra
    · have em9 : mx_i h9 382 = mx_i h 382 := by rw [R4_382 R4, e3, thr382, em]
      rw [em9, w2 (by omega)] at e13
      subst e13
      rw [show (3 : Int32) = nI 3 from rfl, w199 (by omega) (by omega)] at e18
      subst e18
      rw [show (4 : Int32) = nI 4 from rfl, w199 (by omega) (by omega)] at e23
      have e23r : mx_i h23 382 = fun j => if j = 69 + 6 * z + 4 then nI x else if j = 69 + 6 * z + 3 then 0 else mLog (mx_i h 382) (nI z) 5 (mx_i h 382 (69 + 6 * z + 2)) j := by rw [e23, wrow_at]
      have CN : CpN (vw h23 vn) (mx_i h23 382) np ns (min (nl + 1) 60) := by
        refine C_hi (h := h) (hc := h24) (r := mx_i h23 382) ?_ (fun k hk => ?_) (fun _ _ _ _ => rfl)
        · rw [e23r]; exact CR
        · rw [e23, wrow_ne (by omega), R4_lo R4 (by omega), e3, wi_ne (by omega), md_382 hmd]
      refine ⟨C_rs CN, ?_⟩
      refine act_fin ok I R1 u2' b2' (agr_wi' e3 rfl) (bq_wi' e3) f3 t3 R4 (agr_wrow' e23 rfl) (bq_wrow' e23) (fun k hk => ?_) CN ?_
      · rw [e23, wrow_at, if_neg (by omega), if_neg (by omega), mLog_lo (by omega) (by omega), em9]
      · rw [cm_load CR, e23r]
  · have y1 : V_201 (mx_i h 382) i1 = 1 := by unfold V_201; exact v191_y s0 (by rw [C_ns C, ← C_s C]; exact c)
    rw [y1, if_neg (by decide), if_pos]
    unfold V_200
    exact v191_n n0 (by rw [C_np C, ← C_p C]; exact c2)
  · rw [if_pos]
    unfold V_201
    exact v191_n s0 (by rw [C_ns C, ← C_s C]; exact c)
