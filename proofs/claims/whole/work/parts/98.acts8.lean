/-! ACTS 8: split -/
theorem sp_F {z n q : Nat} {i2 : Int32} {s : mxH} (hz : z < 10) (hn : n < 10) (hq : q < 6) : F_255_53 (nI z) i2 (nI n) q s = mx_wi s 382 (69 + 6 * n + q) (mx_i s 382 (69 + 6 * z + q)) := by
  unfold F_255_53 W_199 V_198
  have e1 : (69 + 6 * nI n + nI q).toNatClampNeg = 69 + 6 * n + q := by rw [ixS, nI_clamp (by omega)]
  have e2 : (69 + 6 * nI z + nI q).toNatClampNeg = 69 + 6 * z + q := by rw [ixS, nI_clamp (by omega)]
  rw [e1, e2]
theorem sp_z {z n : Nat} {i2 : Int32} {s0 : mxH} (hz : z < n) (hn : n < 10) : ∀ q, q ≤ 6 → mxU (fun b => b = 382) s0 (fz (F_255_53 (nI z) i2 (nI n)) 0 q s0) ∧ ∀ k, mx_i (fz (F_255_53 (nI z) i2 (nI n)) 0 q s0) 382 k = if 69 + 6 * n ≤ k ∧ k < 69 + 6 * n + q then mx_i s0 382 (69 + 6 * z + (k - (69 + 6 * n))) else mx_i s0 382 k := by
  intro q
  induction q with
  | zero => exact fun _ => ⟨by rw [fz_0]; exact mxU_rfl, fun k => by rw [fz_0, if_neg (by omega)]⟩
  | succ q ih =>
    intro hq
    obtain ⟨a, b⟩ := ih (by omega)
    rw [fz_s (Nat.zero_le _), sp_F (by omega) hn (by omega)]
    refine ⟨mxU_tr a (mxU_wi rfl), fun k => ?_⟩
    rw [wi_row, b k, b (69 + 6 * z + q), if_neg (show ¬ (69 + 6 * n ≤ 69 + 6 * z + q ∧ 69 + 6 * z + q < 69 + 6 * n + q) by omega)]
    by_cases c : k = 69 + 6 * n + q
    · subst c
      rw [if_pos rfl, if_pos (by omega), show 69 + 6 * n + q - (69 + 6 * n) = q by omega]
    · rw [if_neg c]
      by_cases c2 : 69 + 6 * n ≤ k ∧ k < 69 + 6 * n + q
      · rw [if_pos c2, if_pos (by omega)]
      · rw [if_neg c2, if_neg (by omega)]
theorem half : ∀ m, m < 41 → 2 ≤ m → (1 ≤ nI m / 2 ∧ nI m / 2 ≤ 40) ∧ (1 ≤ nI m - nI m / 2 ∧ nI m - nI m / 2 ≤ 40) := by decide +kernel
theorem half_R {w : Int32} (h : isR w 1 40) (h1 : ¬ w = 1) : isR (w / 2) 1 40 ∧ isR (w - w / 2) 1 40 := by
  obtain ⟨m, hm, rfl⟩ := isR_nI (m := 40) (by decide) (isR_lo h (by decide))
  have h2 : 2 ≤ m := by
    rcases Nat.lt_or_ge m 2 with q | q
    · have : m = 0 ∨ m = 1 := by omega
      rcases this with rfl | rfl
      · exact absurd h.1 (by decide)
      · exact absurd rfl h1
    · exact q
  exact half m (by omega) h2
theorem op_split {LW : mxLW} (ok : LWok LW) (i1 : Int32) : Op LW 145 255 [.int i1] (fun k => if k = 2 then 1 else if k = 4 then 2 else 0) := by
  intro h vn vd vr vq np ns nl I
  have C := I.2.2.1
  have h6 := C_np6 C
  have h10 := C_ns10 C
  have hvn := S_vn I.2.1
  obtain ⟨rf, rc, ra⟩ := I_rem I
  have s0 : (0 : Int32) ≤ mx_i h 382 4 := C_ns C ▸ nI0 (by omega)
  refine tr_145_0 I.1 I.2.1 ⟨fun c => ?_, fun c hm hmd => ?_⟩
  · rw [C_s C] at c
    have y1 : V_201 (mx_i h 382) i1 = 1 := by unfold V_201; exact v191_y s0 (by rw [C_ns C]; exact c)
    obtain ⟨z, hz, rfl⟩ := isI_nI (by omega) c
    have cz : (nI z).toNatClampNeg = z := nI_clamp (by omega)
    obtain ⟨w, ew⟩ : ∃ w, w = mx_i h 382 (69 + 6 * z + 2) := ⟨_, rfl⟩
    obtain ⟨T, eT⟩ : ∃ T : Int32, T = (if mx_i h 382 (69 + 6 * z + 3) = 2 then 2 else if w = 1 then 2 else if nI ns = 10 then 2 else 0) := ⟨_, rfl⟩
    have go : ∀ (hm : mxH) (Q : mxO → mxH → Prop), mxG hm → mx_i hm 382 = mx_i h 382 → (∀ h3, h3 = mx_wi hm 381 0 T → (0 < T → Q (.inl (some (.int 0))) h3) ∧ (¬ 0 < T → (cB (mx_i h3 381 6) 12 ∧ (∀ (h9 : mxH), rmM h3 h9 → mx_i h9 382 = mx_i h 382 → (∀ h13, h13 = mx_wrow h9 382 (mLog (mx_i h 382) (nI z) (2 : Int32) w) → H_255_53 500 h13 (nI z) w (nI ns) 0 Q))))) → mx_wp 500 255 0 (mx_fr 255 [.ref 381, .int (nI z)]) [] hm Q := by
      intro hm Q Gm em kk
      refine tr_255_0 Gm ?_
      rw [em, y1, w3 (by omega), w2 (by omega), ← ew, C_ns C]
      refine ⟨v01, ⟨fun _ => trivial, fun _ => ⟨vpS (by omega), fun _ => trivial, fun _ => ⟨vpS (by omega), trivial⟩⟩⟩, fun v2 e2 h3 e3 => ?_⟩
      have e2 : v2 = T := by rw [e2, eT, if_neg (by decide)]
      subst e2
      have t3 : mx_i h3 381 0 = v2 := by rw [e3, thr0]
      rw [t3]
      obtain ⟨k1, k2⟩ := kk h3 e3
      refine ⟨k1, fun q => ⟨(k2 q).1, fun h9 R4 => ⟨vpS (by omega), ?_⟩⟩⟩
      have em9 : mx_i h9 382 = mx_i h 382 := by rw [R4_382 R4, e3, thr382, em]
      rw [em9, w2 (by omega), ← ew, C_ns C]
      exact (k2 q).2 h9 R4 em9
    have late : T = 2 → ∀ hm, mdl (mx_ex h) hm → mx_wp 500 255 0 (mx_fr 255 [.ref 381, .int (nI z)]) [] hm (fun o2 h2 => ∃ b, o2 = .inl (some (.int b)) ∧ ansOk (fun k => if k = 2 then 1 else if k = 4 then 2 else 0) (.inr 4) b (mx_i h2 381 0) ∧ bud h h2 ∧ ∃ vn vd vr vq np ns nl, Inv LW h2 vn vd vr vq np ns nl) := by
      intro et hm hmd
      refine go hm _ (agr_G (P := fun _ => False) (agr_mdl hmd) (mxG_ex I.1)) (md_382 hmd 382) (fun h11 e11 => ?_)
      rw [et] at e11 ⊢
      refine ⟨fun _ => ?_, fun q => absurd (by decide) q⟩
      subst e11
      exact op_fin ok I (smr_tr smr_ex (smr_mdl hmd)) (bud_ex hmd) ⟨rfl, by decide⟩
    have e67 : V_67 h vn = if ns < 10 then 0 else 1 := by
      unfold V_67
      rw [C_s C]
      have : (nI ns < 10) ↔ ns < 10 := nI_ltI (b := 10) (by omega) (by decide)
      by_cases k : ns < 10
      · rw [if_pos k, if_pos (this.mpr k)]
      · rw [if_neg k, if_neg (fun z => k (this.mp z))]
    rw [cz, Cs11 C hz, Cs10 C hz, ← ew]
    refine ⟨vp_in_nI (by omega) (by decide), fun q => late (by rw [eT, if_pos q]), fun q => ⟨fun q2 => late (by rw [eT, if_neg q, if_pos q2]), fun q2 => ⟨fun r3 => ⟨rf, rc, fun h9 R1 => ⟨lg_pre ⟨nl, C_nl60 C, by rw [R1_vn R1 hvn (by omega)]; exact C_l C⟩, fun h14 e14 => ?_⟩⟩, fun r3 => late ?_⟩⟩⟩
    · have hs : ns < 10 := by
        apply Classical.byContradiction
        intro k; rw [e67, if_neg k] at r3; exact absurd r3 (by decide)
      have T0 : T = 0 := by
        rw [eT, if_neg q, if_neg q2, if_neg (show ¬ nI ns = 10 from fun z => absurd ((nI_eq (a := ns) (b := 10) (by omega) (by decide)).mp z) (by omega))]
      have C12 := C_rem I R1
      have CL := CpN_log (z := z) (act := 2) C12 (by omega) rfl
      have ew' : mx_i h9 (vn + 10) z = w := by rw [ew]; exact Cs10 C12 hz
      rw [ew', ← e14] at CL
      have s14 : mx_i h14 (vn + 7) 0 = nI ns := C_s CL
      rw [s14]
      refine ⟨⟨ns, by omega, rfl⟩, c, fun x21 h22 a22 hm hmd => ?_⟩
      obtain ⟨ex, b7, b8, b9, b10, b11, b12⟩ := (a22.2 ns z (by omega) hz rfl s14).2 hs
      subst ex
      have o22 : ∀ k, ¬ (7 ≤ k ∧ k ≤ 12) → mx_i h22 (vn + k) = mx_i h14 (vn + k) := fun k hk => mxU_i a22.1 (by omega)
      have u2' : agr (fun b => vn ≤ b ∧ b < vn + 16) h9 hm := agr_tr (agr_mono (fun b hb => by omega) (agr_U (e14 ▸ w104_U (a := vn) (i1 := nI z) (i2 := 2)))) (agr_tr (agr_mono (fun b hb => by omega) (agr_U a22.1)) (agr_mdl hmd))
      have b2' : bq h9 hm := bq_tr (bq_U (P := fun b => b = vn + 13 ∨ b = vn + 14) (e14 ▸ w104_U)) (bq_tr (bq_U a22.1) (bq_mdl hmd))
      have em : mx_i hm 382 = mx_i h 382 := by rw [u2'.2.2 382 (by omega), R1_hi R1 (by omega)]
      refine go hm _ (agr_G u2' (mxU_G R1.1 I.1)) em (fun h11 e11 => ?_)
      rw [T0] at e11 ⊢
      have t11 : mx_i h11 381 0 = 0 := by rw [e11, thr0]
      have f11 : ∀ j, j ≠ 0 → mx_i h11 381 j = mx_i hm 381 j := fun j hj => by rw [e11, wi_nj hj]
      refine ⟨fun q => absurd q (by decide), fun _ => ⟨?_, fun g9 R4 em9 g13 e13 => ?_⟩⟩
      · rw [f11 6 (by decide), u2'.2.2 381 (by omega), R1_hi R1 (by omega)]; exact ra
      · have G11 : mxG h11 := e11 ▸ mxG_wi (agr_G u2' (mxU_G R1.1 I.1))
        have G13 : mxG g13 := agr_G (agr_wrow' (P := fun b => b = 382) e13 rfl) (mxU_G R4.1 G11)
        have r13 : mx_i g13 382 = mLog (mx_i h 382) (nI z) 2 w := by rw [e13, wrow_at]
        have lo : ∀ k, k < 129 → k ≠ 7 → mLog (mx_i h 382) (nI z) 2 w k = mx_i h 382 k := fun k k1 k2 => mLog_lo k2 (.inl k1)
        refine lp_255_53 (n := 6) 0 G13 (fun _ _ _ => rfl) (by decide) (by decide) (fun y _ hy => ⟨?_, ?_, trivial⟩) ⟨vpS (by omega), fun g3 e3 => ⟨vpS (by omega), fun g8 e8 g12 e12 => ?_⟩⟩
        · rw [ixS]; exact vp_in_nI (by omega) (by decide)
        · rw [ixS]; exact vp_in_nI (by omega) (by decide)
        · obtain ⟨v6, r6⟩ := sp_z (i2 := w) (s0 := g13) hz hs 6 (by decide)
          generalize fz (F_255_53 (nI z) w (nI ns)) 0 6 g13 = g6 at v6 r6 e3
          rw [r13] at r6
          unfold W_199 at e3 e8
          rw [show (2 : Int32) = nI 2 from rfl, ixS, nI_clamp (by omega)] at e3 e8
          have s8 : mx_i g8 382 4 = nI ns := by rw [e8, wi_nj (by omega), e3, wi_nj (by omega), r6, if_neg (by omega), lo 4 (by omega) (by omega)]; exact C_ns C
          rw [s8, nI_1] at e12
          have R12 : ∀ k, mx_i g12 382 k = if k = 4 then nI (ns + 1) else if k = 69 + 6 * z + 2 then w - w / 2 else if k = 69 + 6 * ns + 2 then w / 2 else if 69 + 6 * ns ≤ k ∧ k < 69 + 6 * ns + 6 then mx_i h 382 (69 + 6 * z + (k - (69 + 6 * ns))) else mLog (mx_i h 382) (nI z) 2 w k := fun k => by
            rw [e12, wi_row, e8, wi_row, e3, wi_row, r6]
            by_cases c : 69 + 6 * ns ≤ k ∧ k < 69 + 6 * ns + 6
            · rw [if_pos c, if_pos c, lo (69 + 6 * z + (k - (69 + 6 * ns))) (by omega) (by omega)]; rfl
            · rw [if_neg c, if_neg c]; rfl
          have v12 : mxU (fun b => b = 382) g13 g12 := mxU_tr v6 (mxU_tr (mxU_wi' e3 rfl) (mxU_tr (mxU_wi' e8 rfl) (mxU_wi' e12 rfl)))
          obtain ⟨hA, hB⟩ := half_R (by rw [ew]; exact Cs_w C hz) q2
          have c8 : ∀ k, k ≠ 13 → k ≠ 14 → mx_i h14 (vn + k) = mx_i h9 (vn + k) := fun k k1 k2 => by rw [e14, mxU_i w104_U (by omega)]
          have C1 : CpN (fun k j => if k = 10 ∧ j = z then w - w / 2 else vw h14 vn k j) (fun k => if k = 69 + 6 * z + 2 then w - w / 2 else mLog (mx_i h 382) (nI z) 2 w k) np ns (min (nl + 1) 60) := by
            refine CpN_st (z := z) CL hz (fun k j hk hj => ?_) (fun k k1 k2 k3 k4 => by rw [if_neg (by omega)]) ?_ ?_ ?_ ?_ ?_ ?_ ?_ ?_
            · show (if k = 10 ∧ j = z then w - w / 2 else vw h14 vn k j) = _
              rw [if_neg (by omega)]
            · show (if 10 = 10 ∧ z = z then w - w / 2 else _) = if _ then _ else _
              rw [if_pos ⟨rfl, rfl⟩, if_pos rfl]
            · rw [if_pos rfl]; exact hB
            · show (if 11 = 10 ∧ z = z then w - w / 2 else vw h14 vn 11 z) = if _ then _ else _
              rw [if_neg (by omega), if_neg (by omega)]; exact Cs11 CL hz
            · rw [if_neg (by omega), if_neg (by omega)]
              intro e
              show (if 12 = 10 ∧ z = z then w - w / 2 else vw h14 vn 12 z) = _
              rw [if_neg (by omega), if_neg (by omega)]; exact Cs12 CL hz e
            · rw [if_neg (by omega), if_neg (by omega)]
              intro e
              show (if 12 = 10 ∧ z = z then w - w / 2 else vw h14 vn 12 z) = _
              rw [if_neg (by omega), if_neg (by omega)]; exact Cs12' CL hz e
            · rw [if_neg (by omega)]; exact Cs_s CL hz
            · rw [if_neg (by omega)]; exact Cs_b CL hz
            · rw [if_neg (by omega), if_neg (by omega)]
              exact (CL.2.2.2.2.1 z hz).2.2.2.2.2.2.2.2.2.2.2
          have C22 : CpN (vw h22 vn) (mx_i g12 382) np (ns + 1) (min (nl + 1) 60) := by
            refine CpN_add C1 hs (fun k j hk k1 k2 => ?_) (fun k k1 k2 k3 k4 k5 => ?_) ?_ (by rw [R12, if_pos rfl]) ?_
            · show mx_i h22 (vn + k) j = if k = 10 ∧ j = z then w - w / 2 else mx_i h14 (vn + k) j
              by_cases kc : 7 ≤ k ∧ k ≤ 12
              · have : k = 7 ∨ k = 8 ∨ k = 9 ∨ k = 10 ∨ k = 11 ∨ k = 12 := by omega
                rcases this with rfl | rfl | rfl | rfl | rfl | rfl
                · rw [b7, if_neg (by omega), if_neg (by omega)]
                · rw [b8, if_neg (by omega), if_neg (by omega)]
                · rw [b9, if_neg (by omega), if_neg (by omega)]
                · rw [b10, c8 10 (by omega) (by omega), ew']
                  by_cases jz : j = z
                  · rw [if_pos jz, if_pos ⟨rfl, jz⟩]
                  · rw [if_neg jz, if_neg (show ¬ j = ns by omega), if_neg (by omega)]
                · rw [b11, if_neg (by omega), if_neg (by omega)]
                · rw [b12, if_neg (by omega), if_neg (by omega)]
              · rw [o22 k kc, if_neg (by omega)]
            · rw [R12, if_neg k4]
              by_cases kz : k = 69 + 6 * z + 2
              · rw [if_pos kz, if_pos kz]
              · rw [if_neg kz, if_neg kz, if_neg (by omega), if_neg (by omega)]
            · show mx_i h22 (vn + 7) 0 = _
              rw [b7, if_pos rfl]
            · have qq : ∀ m, m < 6 → m ≠ 2 → mx_i g12 382 (69 + 6 * ns + m) = mx_i h 382 (69 + 6 * z + m) := fun m hm m2 => by
                rw [R12, if_neg (by omega), if_neg (by omega), if_neg (by omega), if_pos (by omega), show 69 + 6 * ns + m - (69 + 6 * ns) = m by omega]
              have q2' : mx_i g12 382 (69 + 6 * ns + 2) = w / 2 := by rw [R12, if_neg (by omega), if_neg (by omega), if_pos rfl]
              rw [qq 0 (by decide) (by decide), qq 1 (by decide) (by decide), q2', qq 3 (by decide) (by decide), qq 4 (by decide) (by decide), qq 5 (by decide) (by decide)]
              obtain ⟨a1, a2, a3, a4, a5, a6, a7, a8, a9, a10, a11, a12⟩ := C12.2.2.2.2.1 z hz
              refine ⟨?_, ?_, ?_, ?_, fun e => ?_, fun e => ?_, a7, a8, hA, a10, a11, a12⟩
              · show mx_i h22 (vn + 8) ns = _; rw [b8, if_pos rfl, c8 8 (by omega) (by omega)]; exact a1
              · show mx_i h22 (vn + 9) ns = _; rw [b9, if_pos rfl, c8 9 (by omega) (by omega)]; exact a2
              · show mx_i h22 (vn + 10) ns = _; rw [b10, if_neg (by omega), if_pos rfl, c8 10 (by omega) (by omega), ew']
              · show mx_i h22 (vn + 11) ns = _; rw [b11, if_pos rfl, c8 11 (by omega) (by omega)]; exact a4
              · show mx_i h22 (vn + 12) ns = _; rw [b12, if_pos rfl, c8 12 (by omega) (by omega)]; exact a5 e
              · show mx_i h22 (vn + 12) ns = _; rw [b12, if_pos rfl, c8 12 (by omega) (by omega)]; exact a6 e
          have CN : CpN (vw g12 vn) (mx_i g12 382) np (ns + 1) (min (nl + 1) 60) := by
            refine C_hi (h := h) (hc := h22) C22 (fun k hk => ?_) (fun k _ _ _ => rfl)
            rw [mxU_i v12 (by omega), e13, wrow_ne (by omega), R4_lo R4 (by omega), e11, wi_ne (by omega), md_382 hmd]
          refine act_fin ok I R1 u2' b2' (agr_wi' e11 rfl) (bq_wi' e11) f11 t11 R4 (agr_tr (agr_wrow' e13 rfl) (agr_U v12)) (bq_tr (bq_wrow' e13) (bq_U v12)) (fun k hk => ?_) CN rfl
          rw [R12, if_neg (by omega), if_neg (by omega), if_neg (by omega), if_neg (by omega), mLog_lo (by omega) (by omega), em9]
    · have k : ¬ ns < 10 := fun k => r3 (by rw [e67, if_pos k])
      rw [eT, if_neg q, if_neg q2, if_pos (by rw [show ns = 10 by omega]; rfl)]
  · rw [C_s C, ← C_ns C] at c
    have em : mx_i hm 382 = mx_i h 382 := md_382 hmd 382
    refine tr_255_0 (agr_G (P := fun _ => False) (agr_mdl hmd) (mxG_ex I.1)) ?_
    have n1 : V_201 (mx_i h 382) i1 = 0 := by unfold V_201; exact v191_n s0 c
    rw [em, n1]
    refine ⟨v01, ⟨fun _ => trivial, fun q => absurd rfl q⟩, fun v2 e2 h3 e3 => ?_⟩
    have e2 : v2 = 1 := by simpa using e2
    subst e2
    subst e3
    rw [thr0]
    exact ⟨fun _ => op_fin ok I (smr_tr smr_ex (smr_mdl hmd)) (bud_ex hmd) ⟨rfl, by decide⟩, fun q => absurd (by decide) q⟩
