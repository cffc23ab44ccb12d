/-! ACTS 5: lay -/
theorem op_lay {LW : mxLW} (ok : LWok LW) (i1 : Int32) : Op LW 147 257 [.int i1] (fun k => if k = 2 then 1 else if k = 4 then 2 else 0) := by
  intro h vn vd vr vq np ns nl I
  have C := I.2.2.1
  have h6 := C_np6 C
  have h10 := C_ns10 C
  have hvn := S_vn I.2.1
  obtain ⟨rf, rc, ra⟩ := I_rem I
  have s0 : (0 : Int32) ≤ mx_i h 382 4 := C_ns C ▸ nI0 (by omega)
  have cd : ∀ k : Nat, ((fun k => if k = 2 then 1 else if k = 4 then 2 else 0 : Nat → Int32) k) = if k = 2 then 1 else if k = 4 then 2 else 0 := fun _ => rfl
  refine tr_147_0 I.1 I.2.1 ⟨fun c => ?_, fun c hm hmd => ?_⟩
  · rw [C_s C] at c
    have y1 : V_201 (mx_i h 382) i1 = 1 := by unfold V_201; exact v191_y s0 (by rw [C_ns C]; exact c)
    obtain ⟨z, hz, rfl⟩ := isI_nI (by omega) c
    have cz : (nI z).toNatClampNeg = z := nI_clamp (by omega)
    obtain ⟨y, hy, ey⟩ := isI_nI (by omega) (Cs_b C hz)
    obtain ⟨l, hl, el⟩ := isI_nI (by omega) (Cs_l C hz)
    obtain ⟨p, hp, ep⟩ := isI_nI (n := 12) (by decide) (isI_of_isR (Cu_l C hy))
    -- place of the stone where it is worn
    have e108 : ∀ hh : mxH, mx_i hh (vn + 11) z = 0 → mx_i hh (vn + 12) z = nI y → mx_i hh (vn + 4) y = nI p → V_108 hh vn (nI z) = nI p := fun hh q1 q2 q3 => by
      unfold V_108
      rw [cz, if_pos q1, q2, nI_clamp (by omega), q3]
    have pOf : V_196 (mx_i h 382) (V_198 (mx_i h 382) (nI z) 4) 2 = nI p := by rw [w4 (by omega), ey, u2 (by omega), ep]
    have c21 : (21 + nI p : Int32).toNatClampNeg = 21 + p := by rw [show (21 : Int32) = nI 21 from rfl, nI_add, nI_clamp (by omega)]
    have lOf : V_196 (mx_i h 382) (V_198 (mx_i h 382) (nI z) 1) 2 = mx_i h 382 (33 + 6 * l + 2) := by rw [w1 (by omega), el, u2 (by omega)]
    -- what the reference does
    have go : ∀ (hm : mxH) (Q : mxO → mxH → Prop), mxG hm → mx_i hm 382 = mx_i h 382 → (∀ t h11, t = (if mx_i h 382 (69 + 6 * z + 3) = 0 then (if mx_i h 382 (21 + p) = 0 then (if mx_i h 382 (33 + 6 * l + 2) = nI p then 0 else 2) else 0) else 2 : Int32) → h11 = mx_wi hm 381 0 t → (0 < t → Q (.inl (some (.int 0))) h11) ∧ (¬ 0 < t → (cB (mx_i h11 381 6) 12 ∧ (∀ h17, rmM h11 h17 → (∀ h21, h21 = mx_wrow h17 382 (mLog (mx_i h17 382) (nI z) 4 (V_198 (mx_i h17 382) (nI z) 2)) → (∀ h26, h26 = W_199 h21 (nI z) 3 1 → (∀ h31, h31 = W_199 h26 (nI z) 5 (nI p) → Q (.inl (some (.int (nI p)))) h31))))))) → mx_wp 500 257 0 (mx_fr 257 [.ref 381, .int (nI z)]) [] hm Q := by
      intro hm Q Gm em kk
      refine tr_257_0 Gm ⟨v01, ⟨fun _ => trivial, fun _ => ⟨vpS (by omega), trivial⟩⟩, fun v2 e2 h3 e3 => ?_⟩
      rw [em, y1, if_neg (by decide), w3 (by omega)] at e2
      by_cases q0 : mx_i h 382 (69 + 6 * z + 3) = 0
      · rw [if_pos q0] at e2
        subst e2
        subst e3
        rw [thr0, thr382, em, pOf, lOf, c21]
        refine ⟨fun q => absurd q (by decide), fun _ => ⟨vpS (by omega), ?_, ?_, ⟨fun _ => ⟨vpS (by omega), ?_, trivial⟩, fun _ => trivial⟩, fun v10 e10 h11 e11 => ?_⟩⟩
        · rw [w4 (by omega), ey]; exact vpU (by omega)
        · exact vpP hp
        · rw [w1 (by omega), el]; exact vpU (by omega)
        · rw [wi_wi] at e11
          have t11 : mx_i h11 381 0 = v10 := by rw [e11, thr0]
          rw [t11]
          obtain ⟨k1, k2⟩ := kk v10 h11 (by rw [if_pos q0]; exact e10) e11
          refine ⟨k1, fun q => ?_⟩
          obtain ⟨k3, k4⟩ := k2 q
          exact ⟨k3, fun h17 R17 => ⟨vpS (by omega), fun h21 e21 => ⟨vpS (by omega), fun h26 e26 => ⟨vpS (by omega), fun h31 e31 => k4 h17 R17 h21 e21 h26 e26 h31 e31⟩⟩⟩⟩
      · rw [if_neg q0] at e2
        subst e2
        have t3 : mx_i h3 381 0 = 2 := by rw [e3, thr0]
        rw [t3]
        obtain ⟨k1, k2⟩ := kk 2 h3 (by rw [if_neg q0]) e3
        exact ⟨k1, fun q => absurd (by decide) q⟩
    have late : ∀ t, t = (if mx_i h 382 (69 + 6 * z + 3) = 0 then (if mx_i h 382 (21 + p) = 0 then (if mx_i h 382 (33 + 6 * l + 2) = nI p then 0 else 2) else 0) else 2 : Int32) → t = 2 → ∀ hm, mdl (mx_ex h) hm → mx_wp 500 257 0 (mx_fr 257 [.ref 381, .int (nI z)]) [] hm (fun o2 h2 => ∃ b, o2 = .inl (some (.int b)) ∧ ansOk (fun k => if k = 2 then 1 else if k = 4 then 2 else 0) (.inr 4) b (mx_i h2 381 0) ∧ bud h h2 ∧ ∃ vn vd vr vq np ns nl, Inv LW h2 vn vd vr vq np ns nl) := by
      intro t et e2 hm hmd
      refine go hm _ (agr_G (P := fun _ => False) (agr_mdl hmd) (mxG_ex I.1)) (md_382 hmd 382) (fun v10 h11 e10 e11 => ?_)
      have : v10 = 2 := by rw [e10, ← et, e2]
      subst this
      refine ⟨fun _ => ?_, fun q => absurd (by decide) q⟩
      subst e11
      exact op_fin ok I (smr_tr smr_ex (smr_mdl hmd)) (bud_ex hmd) ⟨rfl, by decide⟩
    have v109 : V_109 h vn (nI z) = (if mx_i h 382 (69 + 6 * z + 3) = 0 then (if mx_i h 382 (21 + p) = 0 then (if nI p = mx_i h 382 (33 + 6 * l + 2) then 1 else 0) else 1) else 0 : Int32) := by
      unfold V_109
      rw [cz, Cs11 C hz]
      by_cases q0 : mx_i h 382 (69 + 6 * z + 3) = 0
      · rw [if_pos q0, if_pos q0, e108 h (by rw [Cs11 C hz]; exact q0) (by rw [Cs12 C hz q0, ey]) (by rw [Cu4 C hy, ep]), cm_porch C hp, Cs9 C hz, el, nI_clamp (by omega), Cu4 C hl]
      · rw [if_neg q0, if_neg q0]
    rw [cz, Cs11 C hz]
    refine ⟨vp_in_nI (by omega) (by decide), ⟨fun q0 => ⟨⟨fun _ => ⟨?_, trivial⟩, fun _ => trivial⟩, ⟨fun _ => ⟨?_, trivial⟩, fun _ => trivial⟩, trivial⟩, fun _ => trivial⟩, fun q => late _ rfl ?_, fun q => ⟨rf, rc, fun h8 R1 => ⟨lg_pre ⟨nl, C_nl60 C, by rw [R1_vn R1 hvn (by omega)]; exact C_l C⟩, fun h13 e13 => ?_⟩⟩⟩
    · rw [Cs12 C hz q0, ey]; exact vp_in_nI (by omega) (by decide)
    · rw [Cs9 C hz, el]; exact vp_in_nI (by omega) (by decide)
    · rw [v109] at q
      by_cases q0 : mx_i h 382 (69 + 6 * z + 3) = 0
      · rw [if_pos q0] at q ⊢
        by_cases q1 : mx_i h 382 (21 + p) = 0
        · rw [if_pos q1] at q ⊢
          by_cases q2 : nI p = mx_i h 382 (33 + 6 * l + 2)
          · rw [if_pos q2] at q; exact absurd q (by decide)
          · rw [if_neg (fun e => q2 e.symm)]
        · rw [if_neg q1] at q; exact absurd q (by decide)
      · rw [if_neg q0]
    · rw [v109] at q
      have q0 : mx_i h 382 (69 + 6 * z + 3) = 0 := Classical.byContradiction (fun e => q (by rw [if_neg e]))
      have t0 : (if mx_i h 382 (69 + 6 * z + 3) = 0 then (if mx_i h 382 (21 + p) = 0 then (if mx_i h 382 (33 + 6 * l + 2) = nI p then 0 else 2) else 0) else 2 : Int32) = 0 := by
        rw [if_pos q0] at q ⊢
        by_cases q1 : mx_i h 382 (21 + p) = 0
        · rw [if_pos q1] at q ⊢
          by_cases q2 : nI p = mx_i h 382 (33 + 6 * l + 2)
          · rw [if_pos q2.symm]
          · rw [if_neg q2] at q; exact absurd rfl q
        · rw [if_neg q1]
      have C12 := C_rem I R1
      have CL := CpN_log (z := z) (act := 4) C12 (by omega) rfl
      have ew : mx_i h8 (vn + 10) z = mx_i h 382 (69 + 6 * z + 2) := Cs10 C12 hz
      rw [ew] at CL
      have lo : ∀ k, k < 129 → k ≠ 7 → mLog (mx_i h 382) (nI z) 4 (mx_i h 382 (69 + 6 * z + 2)) k = mx_i h 382 k := fun k k1 k2 => mLog_lo k2 (.inl k1)
      have o13 : ∀ k, k ≠ 13 → k ≠ 14 → mx_i h13 (vn + k) = mx_i h8 (vn + k) := fun k k1 k2 => by rw [e13, mxU_i w104_U (by omega)]
      have s13 : mx_i h13 (vn + 11) z = 0 := by rw [o13 11 (by omega) (by omega), Cs11 C12 hz]; exact q0
      have b13 : mx_i h13 (vn + 12) z = nI y := by rw [o13 12 (by omega) (by omega), Cs12 C12 hz q0, ey]
      have p13 : V_108 h13 vn (nI z) = nI p := e108 h13 s13 b13 (by rw [o13 4 (by omega) (by omega), Cu4 C12 hy, ep])
      rw [s13, b13, p13]
      refine ⟨⟨fun _ => ⟨vp_in_nI (by omega) (by decide), trivial⟩, fun _ => trivial⟩, fun h19 e19 h23 e23 hm hmd => ?_⟩
      have u2' : agr (fun b => vn ≤ b ∧ b < vn + 16) h8 hm := agr_tr (agr_mono (fun b hb => by omega) (agr_U (e13 ▸ w104_U (a := vn) (i1 := nI z) (i2 := 4)))) (agr_tr (agr_wi' e19 (by omega)) (agr_tr (agr_wi' e23 (by omega)) (agr_mdl hmd)))
      have b2' : bq h8 hm := bq_tr (bq_U (P := fun b => b = vn + 13 ∨ b = vn + 14) (e13 ▸ w104_U)) (bq_tr (bq_wi' e19) (bq_tr (bq_wi' e23) (bq_mdl hmd)))
      have em : mx_i hm 382 = mx_i h 382 := by rw [u2'.2.2 382 (by omega), R1_hi R1 (by omega)]
      refine go hm _ (agr_G u2' (mxU_G R1.1 I.1)) em (fun t h11 et e11 => ?_)
      have et : t = 0 := by rw [et, t0]
      subst et
      have t11 : mx_i h11 381 0 = 0 := by rw [e11, thr0]
      have f11 : ∀ j, j ≠ 0 → mx_i h11 381 j = mx_i hm 381 j := fun j hj => by rw [e11, wi_nj hj]
      refine ⟨fun q => absurd q (by decide), fun _ => ⟨?_, fun h17 R4 h21 e21 h26 e26 h31 e31 => ?_⟩⟩
      · rw [f11 6 (by decide), u2'.2.2 381 (by omega), R1_hi R1 (by omega)]; exact ra
      · have em9 : mx_i h17 382 = mx_i h 382 := by rw [R4_382 R4, e11, thr382, em]
        rw [em9, w2 (by omega)] at e21
        subst e21
        rw [show (3 : Int32) = nI 3 from rfl, w199 (by omega) (by omega)] at e26
        subst e26
        rw [show (5 : Int32) = nI 5 from rfl, w199 (by omega) (by omega)] at e31
        have e31r : mx_i h31 382 = fun j => if j = 69 + 6 * z + 5 then nI p else if j = 69 + 6 * z + 3 then 1 else mLog (mx_i h 382) (nI z) 4 (mx_i h 382 (69 + 6 * z + 2)) j := by rw [e31, wrow_at]
        have CN : CpN (vw h31 vn) (mx_i h31 382) np ns (min (nl + 1) 60) := by
          refine C_hi (h := h) (hc := h23) (r := mx_i h31 382) ?_ (fun k hk => ?_) (fun _ _ _ _ => rfl)
          · rw [e31r]
            refine CpN_st (z := z) CL hz (fun k j hk hj => ?_) (fun k k1 k2 k3 k4 => by rw [if_neg (by omega), if_neg (by omega)]) ?_ ?_ ?_ ?_ ?_ ?_ ?_ ?_
            · show mx_i h23 (vn + k) j = mx_i (W_104 h8 vn (nI z) 4) (vn + k) j
              rw [e23, wi_i, if_neg (by omega), e19, wi_i, if_neg (by omega), e13]
            · show mx_i h23 (vn + 10) z = _
              rw [if_neg (by omega), if_neg (by omega), e23, wi_ne (by omega), e19, wi_ne (by omega), o13 10 (by omega) (by omega), lo _ (by omega) (by omega)]; exact ew
            · rw [if_neg (by omega), if_neg (by omega), lo _ (by omega) (by omega)]; exact Cs_w C hz
            · show mx_i h23 (vn + 11) z = _
              rw [if_neg (by omega), if_pos rfl, e23, wi_ne (by omega), e19, wi_at rfl rfl]
            · intro e
              rw [if_neg (by omega), if_pos rfl] at e
              exact absurd e (by decide)
            · intro _
              show mx_i h23 (vn + 12) z = _
              rw [if_pos rfl, e23, wi_at rfl rfl]
            · rw [if_neg (by omega), if_pos rfl]; unfold isR; decide
            · rw [if_neg (by omega), if_neg (by omega), lo _ (by omega) (by omega)]; exact Cs_b C hz
            · intro _
              rw [if_pos rfl]; exact isR_of_isI (nI_isI (n := 12) hp (by decide))
          · rw [e31, wrow_ne (by omega), R4_lo R4 (by omega), e11, wi_ne (by omega), md_382 hmd]
        refine act_fin ok I R1 u2' b2' (agr_wi' e11 rfl) (bq_wi' e11) f11 t11 R4 (agr_wrow' e31 rfl) (bq_wrow' e31) (fun k hk => ?_) CN rfl
        rw [e31, wrow_at, if_neg (by omega), if_neg (by omega), mLog_lo (by omega) (by omega), em9]
  · rw [C_s C, ← C_ns C] at c
    have em : mx_i hm 382 = mx_i h 382 := md_382 hmd 382
    refine tr_257_0 (agr_G (P := fun _ => False) (agr_mdl hmd) (mxG_ex I.1)) ⟨v01, ⟨fun _ => trivial, fun q => ?_⟩, fun v2 e2 h3 e3 => ?_⟩
    · exact absurd (by rw [em]; unfold V_201; exact v191_n s0 c) q
    · have e2 : v2 = 1 := by
        rw [em] at e2
        unfold V_201 at e2
        rw [v191_n s0 c] at e2; simpa using e2
      subst e2
      subst e3
      rw [thr0]
      exact ⟨fun _ => op_fin ok I (smr_tr smr_ex (smr_mdl hmd)) (bud_ex hmd) ⟨rfl, by decide⟩, fun q => absurd (by decide) q⟩
