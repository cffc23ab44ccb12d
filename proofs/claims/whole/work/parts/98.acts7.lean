/-! ACTS 7: a stone more; lend -/
theorem CpN_add {v v' : Nat → Nat → Int32} {r r' : Nat → Int32} {np ns nl : Nat} (C : CpN v r np ns nl) (hs : ns < 10) (hv : ∀ k j, inV k j → ¬ (k = 7 ∧ j = 0) → ¬ (8 ≤ k ∧ k ≤ 12 ∧ j = ns) → v' k j = v k j) (hr : ∀ k, k < 369 → k ≠ 1 → k ≠ 2 → k ≠ 4 → ¬ (69 + 6 * ns ≤ k ∧ k < 69 + 6 * ns + 6) → r' k = r k) (e7 : v' 7 0 = nI (ns + 1)) (e4 : r' 4 = nI (ns + 1)) (row : v' 8 ns = r' (69 + 6 * ns + 0) ∧ v' 9 ns = r' (69 + 6 * ns + 1) ∧ v' 10 ns = r' (69 + 6 * ns + 2) ∧ v' 11 ns = r' (69 + 6 * ns + 3) ∧ (r' (69 + 6 * ns + 3) = 0 → v' 12 ns = r' (69 + 6 * ns + 4)) ∧ (r' (69 + 6 * ns + 3) = 1 → v' 12 ns = r' (69 + 6 * ns + 5)) ∧ isI (r' (69 + 6 * ns + 0)) (nI np) ∧ isI (r' (69 + 6 * ns + 1)) (nI np) ∧ isR (r' (69 + 6 * ns + 2)) 1 40 ∧ isR (r' (69 + 6 * ns + 3)) 0 2 ∧ isI (r' (69 + 6 * ns + 4)) (nI np) ∧ (r' (69 + 6 * ns + 3) = 1 → isR (r' (69 + 6 * ns + 5)) 0 11)) : CpN v' r' np (ns + 1) nl := by
  have h6 := C.1.1
  have hl := C.1.2.2.1
  have C0 := C.1
  refine ⟨⟨h6, by omega, hl, ?_, e4, ?_, ?_, e7, ?_⟩, Cp1_c (hv 0 5 (by unfold inV; omega) (by omega) (by omega)) (hv 0 6 (by unfold inV; omega) (by omega) (by omega)) (hv 0 7 (by unfold inV; omega) (by omega) (by omega)) (hv 0 8 (by unfold inV; omega) (by omega) (by omega)) (hr 0 (by omega) (by omega) (by omega) (by omega) (by omega)) (hr 5 (by omega) (by omega) (by omega) (by omega) (by omega)) (hr 6 (by omega) (by omega) (by omega) (by omega) (by omega)) (hr 8 (by omega) (by omega) (by omega) (by omega) (by omega)) C.2.1, Cp2_c (hv 0 4 (by unfold inV; omega) (by omega) (by omega)) (fun p hp => hv 15 p (by unfold inV; omega) (by omega) (by omega)) (fun k k1 k2 => hr k (by omega) (by omega) (by omega) (by omega) (by omega)) C.2.2.1, CpU_c h6 (hv 1 6 (by unfold inV; omega) (by omega) (by omega)) (fun k x k1 k2 hx => hv k x (by unfold inV; omega) (by omega) (by omega)) (fun k k1 k2 => hr k (by omega) (by omega) (by omega) (by omega) (by omega)) C.2.2.2.1, fun y hy => ?_, CpL_c hl (fun j hj => hv 14 j (by unfold inV; omega) (by omega) (by omega)) (fun k k1 k2 => hr k (by omega) (by omega) (by omega) (by omega) (by omega)) C.2.2.2.2.2⟩
  · rw [hr 3 (by omega) (by omega) (by omega) (by omega) (by omega)]; exact C0.2.2.2.1
  · rw [hr 7 (by omega) (by omega) (by omega) (by omega) (by omega)]; exact C0.2.2.2.2.2.1
  · rw [hv 1 0 (by unfold inV; omega) (by omega) (by omega)]; exact C0.2.2.2.2.2.2.1
  · rw [hv 13 0 (by unfold inV; omega) (by omega) (by omega)]; exact C0.2.2.2.2.2.2.2.2
  · by_cases hyz : y = ns
    · subst hyz; exact row
    · have hy' : y < ns := by omega
      obtain ⟨a1, a2, a3, a4, a5, a6, a7, a8, a9, a10, a11, a12⟩ := C.2.2.2.2.1 y hy'
      rw [hv 8 y (by unfold inV; omega) (by omega) (by omega), hv 9 y (by unfold inV; omega) (by omega) (by omega), hv 10 y (by unfold inV; omega) (by omega) (by omega), hv 11 y (by unfold inV; omega) (by omega) (by omega), hv 12 y (by unfold inV; omega) (by omega) (by omega), hr (69 + 6 * y + 0) (by omega) (by omega) (by omega) (by omega) (by omega), hr (69 + 6 * y + 1) (by omega) (by omega) (by omega) (by omega) (by omega), hr (69 + 6 * y + 2) (by omega) (by omega) (by omega) (by omega) (by omega), hr (69 + 6 * y + 3) (by omega) (by omega) (by omega) (by omega) (by omega), hr (69 + 6 * y + 4) (by omega) (by omega) (by omega) (by omega) (by omega), hr (69 + 6 * y + 5) (by omega) (by omega) (by omega) (by omega) (by omega)]
      exact ⟨a1, a2, a3, a4, a5, a6, a7, a8, a9, a10, a11, a12⟩
theorem w220 {h : mxH} {ns : Nat} {i1 i2 i3 i4 : Int32} (hs : ns < 10) (e : mx_i h 382 4 = nI ns) : mxU (fun b => b = 382) h (W_220 h i1 i2 i3 i4) ∧ ∀ k, mx_i (W_220 h i1 i2 i3 i4) 382 k = if k = 4 then nI (ns + 1) else if k = 69 + 6 * ns + 5 then 0 else if k = 69 + 6 * ns + 4 then i4 else if k = 69 + 6 * ns + 3 then 0 else if k = 69 + 6 * ns + 2 then i3 else if k = 69 + 6 * ns + 1 then i2 else if k = 69 + 6 * ns + 0 then i1 else mx_i h 382 k := by
  have ck : ∀ k, k < 6 → (69 + 6 * nI ns + nI k).toNatClampNeg = 69 + 6 * ns + k := fun k hk => by rw [ixS, nI_clamp (by omega)]
  have c0 : (69 + 6 * nI ns + 0).toNatClampNeg = 69 + 6 * ns + 0 := ck 0 (by decide)
  have c1 : (69 + 6 * nI ns + 1).toNatClampNeg = 69 + 6 * ns + 1 := ck 1 (by decide)
  have c2 : (69 + 6 * nI ns + 2).toNatClampNeg = 69 + 6 * ns + 2 := ck 2 (by decide)
  have c3 : (69 + 6 * nI ns + 3).toNatClampNeg = 69 + 6 * ns + 3 := ck 3 (by decide)
  have c4 : (69 + 6 * nI ns + 4).toNatClampNeg = 69 + 6 * ns + 4 := ck 4 (by decide)
  have c5 : (69 + 6 * nI ns + 5).toNatClampNeg = 69 + 6 * ns + 5 := ck 5 (by decide)
  have E : W_220 h i1 i2 i3 i4 = mx_wi (mx_wi (mx_wi (mx_wi (mx_wi (mx_wi (mx_wi h 382 (69 + 6 * ns + 0) i1) 382 (69 + 6 * ns + 1) i2) 382 (69 + 6 * ns + 2) i3) 382 (69 + 6 * ns + 3) 0) 382 (69 + 6 * ns + 4) i4) 382 (69 + 6 * ns + 5) 0) 382 4 (nI (ns + 1)) := by
    unfold W_220 W_199
    rw [e, c0, c1, c2, c3, c4, c5, wi_nj (by omega), wi_nj (by omega), wi_nj (by omega), wi_nj (by omega), wi_nj (by omega), wi_nj (by omega), e, nI_1]
  rw [E]
  refine ⟨mxU_tr (mxU_wi rfl) (mxU_tr (mxU_wi rfl) (mxU_tr (mxU_wi rfl) (mxU_tr (mxU_wi rfl) (mxU_tr (mxU_wi rfl) (mxU_tr (mxU_wi rfl) (mxU_wi rfl)))))), fun k => ?_⟩
  rw [wi_row, wi_row, wi_row, wi_row, wi_row, wi_row, wi_row]
theorem op_lend {LW : mxLW} (ok : LWok LW) (i1 i2 i3 : Int32) : Op LW 143 253 [.int i1, .int i2, .int i3] (fun k => if k = 2 then 1 else if k = 0 then 2 else if k = 4 then 3 else 0) := by
  intro h vn vd vr vq np ns nl I
  have C := I.2.2.1
  have h6 := C_np6 C
  have h10 := C_ns10 C
  have hvn := S_vn I.2.1
  obtain ⟨rf, rc, ra⟩ := I_rem I
  have n0 : (0 : Int32) ≤ mx_i h 382 3 := C_np C ▸ nI0 (by omega)
  have y200 : ∀ i, isI i (mx_i h 382 3) → V_200 (mx_i h 382) i = 1 := fun i c => by unfold V_200; exact v191_y n0 c
  have n200 : ∀ i, ¬ isI i (mx_i h 382 3) → V_200 (mx_i h 382) i = 0 := fun i c => by unfold V_200; exact v191_n n0 c
  obtain ⟨T, eT⟩ : ∃ T : Int32, T = (if (V_200 (mx_i h 382) i1) = 0 then 1 else (if (V_200 (mx_i h 382) i2) = 0 then 1 else (if i1 = i2 then 2 else (if (V_191 (mx_i h 382) i3 (1 : Int32) (40 : Int32)) = 0 then 2 else (if (mx_i h 382 4) = 10 then 3 else (if (V_196 (mx_i h 382) i1 (0 : Int32)) < i3 then 3 else 0)))))) := ⟨_, rfl⟩
  have go : ∀ (hm : mxH) (Q : mxO → mxH → Prop), mxG hm → mx_i hm 382 = mx_i h 382 → (∀ h3, h3 = mx_wi hm 381 0 T → (0 < T → Q (.inl (some (.int 0))) h3) ∧ (¬ 0 < T → (cB (mx_i h3 381 6) 12 ∧ (∀ (h9 : mxH), rmM h3 h9 → (vp_in ((33 + (6 * i1)) + (0 : Int32)) 769 ∧ vp_in ((33 + (6 * i2)) + (0 : Int32)) 769 ∧ (∀ h14, h14 = W_252 h9 i1 i2 i3 → (vp_in ((69 + (6 * (mx_i h14 382 4))) + (0 : Int32)) 769 ∧ vp_in ((69 + (6 * (mx_i h14 382 4))) + (1 : Int32)) 769 ∧ vp_in ((69 + (6 * (mx_i h14 382 4))) + (2 : Int32)) 769 ∧ vp_in ((69 + (6 * (mx_i h14 382 4))) + (3 : Int32)) 769 ∧ vp_in ((69 + (6 * (mx_i h14 382 4))) + (4 : Int32)) 769 ∧ vp_in ((69 + (6 * (mx_i h14 382 4))) + (5 : Int32)) 769 ∧ (∀ h24, h24 = W_220 h14 i2 i1 i3 i2 → (∀ h28, h28 = mx_wrow h24 382 (mLog (mx_i h24 382) ((mx_i h24 382 4) - 1) (0 : Int32) i3) → Q (.inl (some (.int ((mx_i h28 382 4) - 1)))) h28))))))))) → mx_wp 500 253 0 (mx_fr 253 [.ref 381, .int i1, .int i2, .int i3]) [] hm Q := by
    intro hm Q Gm em kk
    refine tr_253_0 Gm ?_
    rw [em, ← eT]
    refine ⟨v01, ⟨fun _ => trivial, fun q => ⟨v01, fun _ => trivial, fun _ => ⟨fun _ => trivial, fun _ => ⟨fun _ => trivial, fun _ => ⟨fun _ => trivial, fun _ => ⟨?_, trivial⟩⟩⟩⟩⟩⟩, fun v2 e2 h3 e3 => ?_⟩
    · have c : isI i1 (mx_i h 382 3) := Classical.byContradiction (fun c => q (n200 i1 c))
      rw [C_np C] at c
      obtain ⟨x, hx, rfl⟩ := isI_nI (by omega) c
      exact vpU (by omega)
    · subst e2
      have t3 : mx_i h3 381 0 = v2 := by rw [e3, thr0]
      rw [t3]
      exact kk h3 e3
  have late : ∀ (k : Nat) (t : Int32), 0 < t → ((fun k => if k = 2 then 1 else if k = 0 then 2 else if k = 4 then 3 else 0 : Nat → Int32) k = t) → T = t → ∀ hm, mdl (mx_ex h) hm → mx_wp 500 253 0 (mx_fr 253 [.ref 381, .int i1, .int i2, .int i3]) [] hm (fun o2 h2 => ∃ b, o2 = .inl (some (.int b)) ∧ ansOk (fun k => if k = 2 then 1 else if k = 0 then 2 else if k = 4 then 3 else 0) (.inr k) b (mx_i h2 381 0) ∧ bud h h2 ∧ ∃ vn vd vr vq np ns nl, Inv LW h2 vn vd vr vq np ns nl) := by
    intro k t ht hk et hm hmd
    refine go hm _ (agr_G (P := fun _ => False) (agr_mdl hmd) (mxG_ex I.1)) (md_382 hmd 382) (fun h11 e11 => ?_)
    rw [et] at e11 ⊢
    refine ⟨fun _ => ?_, fun q => absurd ht q⟩
    subst e11
    refine op_fin ok I (smr_tr smr_ex (smr_mdl hmd)) (bud_ex hmd) ⟨hk.symm, ?_⟩
    rw [hk]; exact fun e => absurd (e ▸ ht) (by decide)
  refine tr_143_0 I.1 I.2.1 ?_
  rw [C_p C, ← C_np C]
  refine ⟨fun c1 => ⟨fun c2 => ⟨fun q => late 0 2 (by decide) (by decide) (by rw [eT, y200 i1 c1, y200 i2 c2, if_neg (by decide), if_neg (by decide), if_pos q]), fun q => ⟨fun r1 => late 0 2 (by decide) (by decide) ?_, fun r1 => ⟨fun r2 => late 0 2 (by decide) (by decide) ?_, fun r2 => ?_⟩⟩⟩, fun c2 => late 2 1 (by decide) (by decide) (by rw [eT, y200 i1 c1, n200 i2 c2, if_neg (by decide), if_pos rfl])⟩, fun c1 => late 2 1 (by decide) (by decide) (by rw [eT, n200 i1 c1, if_pos rfl])⟩
  · have e : V_191 (mx_i h 382) i3 1 40 = 0 := by unfold V_191; rw [if_pos r1]
    rw [eT, y200 i1 c1, y200 i2 c2, if_neg (by decide), if_neg (by decide), if_neg q, if_pos e]
  · have e : V_191 (mx_i h 382) i3 1 40 = 0 := by unfold V_191; rw [if_neg r1, if_pos r2]
    rw [eT, y200 i1 c1, y200 i2 c2, if_neg (by decide), if_neg (by decide), if_neg q, if_pos e]
  · have e : V_191 (mx_i h 382) i3 1 40 = 1 := by unfold V_191; rw [if_neg r1, if_neg r2]
    have hw : isR i3 1 40 := ⟨Int32.not_lt.mp r1, Int32.not_lt.mp r2⟩
    rw [y200 i1 c1, y200 i2 c2, if_neg (by decide), if_neg (by decide), if_neg q, e, if_neg (by decide)] at eT
    rw [C_np C] at c1 c2
    obtain ⟨x, hx, rfl⟩ := isI_nI (by omega) c1
    obtain ⟨l, hl, rfl⟩ := isI_nI (by omega) c2
    have cx : (nI x).toNatClampNeg = x := nI_clamp (by omega)
    rw [u0 (by omega), C_ns C] at eT
    rw [cx, Cu2 C hx]
    have e67 : V_67 h vn = if ns < 10 then 0 else 1 := by
      unfold V_67
      rw [C_s C]
      have : (nI ns < 10) ↔ ns < 10 := nI_ltI (b := 10) (by omega) (by decide)
      by_cases k : ns < 10
      · rw [if_pos k, if_pos (this.mpr k)]
      · rw [if_neg k, if_neg (fun z => k (this.mp z))]
    refine ⟨fun r3 => ⟨vp_in_nI (by omega) (by decide), fun r4 => late 4 3 (by decide) (by decide) ?_, fun r4 => ⟨rf, rc, fun h12 R1 => ⟨vp_in_nI (by omega) (by decide), fun h17 e17 => ?_⟩⟩⟩, fun r3 => late 4 3 (by decide) (by decide) ?_⟩
    · rw [eT, if_pos r4, ite_self]
    · have hs : ns < 10 := by
        apply Classical.byContradiction
        intro k; rw [e67, if_neg k] at r3; exact absurd r3 (by decide)
      have T0 : T = 0 := by
        rw [eT, if_neg (show ¬ nI ns = 10 from fun z => absurd ((nI_eq (a := ns) (b := 10) (by omega) (by decide)).mp z) (by omega)), if_neg r4]
      have C12 := C_rem I R1
      obtain ⟨u17, m17⟩ := w47 (h := h12) (a := vn) (x := x) (l := l) (w := i3) (by omega) (by omega)
      rw [← e17] at u17 m17
      have s17 : mx_i h17 (vn + 7) 0 = nI ns := by rw [mxU_i u17 (by omega)]; exact C_s C12
      refine ⟨⟨ns, by omega, s17⟩, fun x23 h24 a24 => ?_⟩
      obtain ⟨ex, b7, b8, b9, b10, b11, b12⟩ := (a24.2 ns (by omega) s17).2 hs
      subst ex
      have o24 : ∀ k, ¬ (7 ≤ k ∧ k ≤ 12) → mx_i h24 (vn + k) = mx_i h17 (vn + k) := fun k hk => mxU_i a24.1 (by omega)
      refine ⟨vp_in_nI hs (by decide), lg_pre ⟨nl, C_nl60 C, by rw [o24 13 (by omega), mxU_i u17 (by omega)]; exact C_l C12⟩, fun h30 e30 hm hmd => ?_⟩
      have u2' : agr (fun b => vn ≤ b ∧ b < vn + 16) h12 hm := agr_tr (agr_mono (fun b hb => by omega) (agr_U u17)) (agr_tr (agr_mono (fun b hb => by omega) (agr_U a24.1)) (agr_tr (agr_mono (fun b hb => by omega) (agr_U (e30 ▸ w104_U (a := vn) (i1 := nI ns) (i2 := 0)))) (agr_mdl hmd)))
      have b2' : bq h12 hm := bq_tr (bq_U u17) (bq_tr (bq_U a24.1) (bq_tr (bq_U (P := fun b => b = vn + 13 ∨ b = vn + 14) (e30 ▸ w104_U)) (bq_mdl hmd)))
      have em : mx_i hm 382 = mx_i h 382 := by rw [u2'.2.2 382 (by omega), R1_hi R1 (by omega)]
      refine go hm _ (agr_G u2' (mxU_G R1.1 I.1)) em (fun h11 e11 => ?_)
      rw [T0] at e11 ⊢
      have t11 : mx_i h11 381 0 = 0 := by rw [e11, thr0]
      have f11 : ∀ j, j ≠ 0 → mx_i h11 381 j = mx_i hm 381 j := fun j hj => by rw [e11, wi_nj hj]
      refine ⟨fun q => absurd q (by decide), fun _ => ⟨?_, fun g9 R4 => ⟨vpU (by omega), vpU (by omega), fun g14 e14 => ?_⟩⟩⟩
      · rw [f11 6 (by decide), u2'.2.2 381 (by omega), R1_hi R1 (by omega)]; exact ra
      · have em9 : mx_i g9 382 = mx_i h 382 := by rw [R4_382 R4, e11, thr382, em]
        obtain ⟨v14, p14, o14⟩ := w252 (h := g9) (x := x) (l := l) (w := i3) (by omega) (by omega)
        rw [← e14] at v14 p14 o14
        rw [em9] at p14 o14
        have s14 : mx_i g14 382 4 = nI ns := by rw [o14 4 (by omega)]; exact C_ns C
        rw [s14]
        refine ⟨vpS (by omega), vpS (by omega), vpS (by omega), vpS (by omega), vpS (by omega), vpS (by omega), fun g24 e24 g28 e28 => ?_⟩
        obtain ⟨v24, r24⟩ := w220 (h := g14) (i1 := nI l) (i2 := nI x) (i3 := i3) (i4 := nI l) hs s14
        rw [← e24] at v24 r24
        have s24 : mx_i g24 382 4 = nI (ns + 1) := by rw [r24, if_pos rfl]
        have es : nI (ns + 1) - 1 = nI ns := by rw [← nI_1]; exact Int32.add_sub_cancel _ _
        rw [s24, es] at e28
        have mvR := mv_R (n := np) (f := fun y => mx_i h 382 (33 + 6 * y + 0)) (fun y hy => Cu_p C hy) hx hl hw r4
        have C17 : CpN (vw h17 vn) (mx_i g14 382) np ns nl := by
          refine CpN_pu C12 (fun k j hk hk2 => ?_) (fun k k1 k2 k3 k4 => o14 k k4) (fun y hy => ?_)
          · show mx_i h17 (vn + k) j = mx_i h12 (vn + k) j
            rw [mxU_i u17 (by omega)]
          · show mx_i h17 (vn + 2) y = _ ∧ _
            rw [p14 y (by omega)]
            refine ⟨?_, mvR y hy⟩
            rw [m17 y]
            unfold mv
            simp only [Cu2 C12 hx, Cu2 C12 hl, Cu2 C12 hy]
        have C24 : CpN (vw h24 vn) (mx_i g24 382) np (ns + 1) nl := by
          refine CpN_add C17 hs (fun k j hk k1 k2 => ?_) (fun k k1 k2 k3 k4 k5 => ?_) ?_ s24 ?_
          · show mx_i h24 (vn + k) j = mx_i h17 (vn + k) j
            by_cases kc : 7 ≤ k ∧ k ≤ 12
            · have : k = 7 ∨ k = 8 ∨ k = 9 ∨ k = 10 ∨ k = 11 ∨ k = 12 := by omega
              rcases this with rfl | rfl | rfl | rfl | rfl | rfl
              · rw [b7, if_neg (by omega)]
              · rw [b8, if_neg (by omega)]
              · rw [b9, if_neg (by omega)]
              · rw [b10, if_neg (by omega)]
              · rw [b11, if_neg (by omega)]
              · rw [b12, if_neg (by omega)]
            · rw [o24 k kc]
          · rw [r24, if_neg (by omega), if_neg (by omega), if_neg (by omega), if_neg (by omega), if_neg (by omega), if_neg (by omega), if_neg (by omega)]
          · show mx_i h24 (vn + 7) 0 = _
            rw [b7, if_pos rfl]
          · have q0 : mx_i g24 382 (69 + 6 * ns + 0) = nI l := by rw [r24, if_neg (by omega), if_neg (by omega), if_neg (by omega), if_neg (by omega), if_neg (by omega), if_neg (by omega), if_pos rfl]
            have q1 : mx_i g24 382 (69 + 6 * ns + 1) = nI x := by rw [r24, if_neg (by omega), if_neg (by omega), if_neg (by omega), if_neg (by omega), if_neg (by omega), if_pos rfl]
            have q2 : mx_i g24 382 (69 + 6 * ns + 2) = i3 := by rw [r24, if_neg (by omega), if_neg (by omega), if_neg (by omega), if_neg (by omega), if_pos rfl]
            have q3 : mx_i g24 382 (69 + 6 * ns + 3) = 0 := by rw [r24, if_neg (by omega), if_neg (by omega), if_neg (by omega), if_pos rfl]
            have q4 : mx_i g24 382 (69 + 6 * ns + 4) = nI l := by rw [r24, if_neg (by omega), if_neg (by omega), if_pos rfl]
            rw [q0, q1, q2, q3, q4]
            refine ⟨?_, ?_, ?_, ?_, fun _ => ?_, fun z => absurd z (by decide), nI_isI hl (by omega), nI_isI hx (by omega), hw, by unfold isR; decide, nI_isI hl (by omega), fun z => absurd z (by decide)⟩
            · show mx_i h24 (vn + 8) ns = _; rw [b8, if_pos rfl]
            · show mx_i h24 (vn + 9) ns = _; rw [b9, if_pos rfl]
            · show mx_i h24 (vn + 10) ns = _; rw [b10, if_pos rfl]
            · show mx_i h24 (vn + 11) ns = _; rw [b11, if_pos rfl]
            · show mx_i h24 (vn + 12) ns = _; rw [b12, if_pos rfl]
        have CL := CpN_log (z := ns) (act := 0) (wt := i3) C24 hs (by rw [b10, if_pos rfl])
        have r28 : mx_i g28 382 = mLog (mx_i g24 382) (nI ns) 0 i3 := by rw [e28, wrow_at]
        have CN : CpN (vw g28 vn) (mx_i g28 382) np (ns + 1) (min (nl + 1) 60) := by
          refine C_hi (h := h) (hc := W_104 h24 vn (nI ns) 0) CL (fun k hk => ?_) (fun k _ _ _ => by rw [r28])
          rw [e28, wrow_ne (by omega), mxU_i v24 (by omega), mxU_i v14 (by omega), R4_lo R4 (by omega), e11, wi_ne (by omega), md_382 hmd, e30]
        refine act_fin ok I R1 u2' b2' (agr_wi' e11 rfl) (bq_wi' e11) f11 t11 R4 (agr_tr (agr_U v14) (agr_tr (agr_U v24) (agr_wrow' e28 rfl))) (bq_tr (bq_U v14) (bq_tr (bq_U v24) (bq_wrow' e28))) (fun k hk => ?_) CN ?_
        · rw [r28, mLog_lo (by omega) (by omega), r24, if_neg (by omega), if_neg (by omega), if_neg (by omega), if_neg (by omega), if_neg (by omega), if_neg (by omega), if_neg (by omega), o14 k (by omega), em9]
        · rw [r28, mLog_lo (by omega) (by omega), s24, es]
    · have k : ¬ ns < 10 := fun k => r3 (by rw [e67, if_pos k])
      rw [eT, if_pos (by rw [show ns = 10 by omega]; rfl)]
