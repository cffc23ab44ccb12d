/-! OPS 3: seed, heap, heaviest, pairs, log, count -/
theorem fo_eq {α : Type} {f g : Nat → α → α} {n m : Nat} {s t : α} (hn : n = m) (hs : s = t) (h : ∀ z, z < n → ∀ s, f z s = g z s) : fo f n s = fo g m t := by
  subst hn hs; exact fo_congr h
theorem cm_heap {h : mxH} {a : Nat} {r : Nat → Int32} {np ns nl : Nat} (C : CpN (vw h a) r np ns nl) : V_83 h a = (fo (F_286_9 r) 12 ((-1), 0)).1 := by
  unfold V_83
  refine congrArg Prod.fst (fo_congr (fun z hz s => ?_))
  unfold F_83_6 F_286_9
  rw [cm_laid C, cm_weightOf C]
theorem op_heap {LW : mxLW} (ok : LWok LW) : Op LW 160 286 [] (fun _ => 0) := by
  intro h vn vd vr vq np ns nl I
  have C := I.2.2.1
  refine tr_160_0 I.1 I.2.1 ⟨C_cs C, fun hm hmd => ?_⟩
  have G := agr_G (P := fun _ => False) (agr_mdl hmd) I.1
  refine tr_286_0 G (fun h1 e1 => ?_)
  subst e1
  have em : mx_i (mx_wi hm 381 0 0) 382 = mx_i h 382 := by rw [thr382, md_382 hmd]
  refine lp_286_9 (s0 := ((-1), 0)) (n := 12) 0 (mxG_wi G) rfl (by decide) (by decide) (fun z _ hz => ⟨by rw [em]; exact C_rs C, trivial⟩) ?_
  refine op_fin ok I (smr_mdl hmd) (bud_mdl hmd) ⟨rfl, ?_⟩
  rw [fz_fo, em]; exact cm_heap C
theorem op_seed {LW : mxLW} (ok : LWok LW) (i1 : Int32) : Op LW 152 299 [.int i1] (fun _ => 0) := by
  intro h vn vd vr vq np ns nl I
  have C := I.2.2.1
  have hS := I.2.1.2.2.2.2
  refine tr_152_0 I.1 I.2.1 (fun h1 e1 hm hmd => ?_)
  have um : agr (fun b => b = vn ∨ b = 381 ∨ b = 382) h hm := agr_tr (agr_wi' e1 (.inl rfl)) (agr_mdl hmd)
  refine tr_299_0 (agr_G um I.1) (fun h2 e2 h4 e4 => ?_)
  have u4 : agr (fun b => b = vn ∨ b = 381 ∨ b = 382) h h4 := agr_tr um (agr_tr (agr_wi' e2 (.inr (.inl rfl))) (agr_wi' e4 (.inr (.inr rfl))))
  have f381 : ∀ k, k ≠ 0 → mx_i h4 381 k = mx_i h 381 k := fun k k0 => by
    rw [e4, wi_ne (by decide), e2, wi_nj k0, md_382 hmd, e1, wi_ne (by omega)]
  have f382 : ∀ k, k ≠ 8 → mx_i h4 382 k = mx_i h 382 k := fun k k0 => by
    rw [e4, wi_nj k0, e2, wi_ne (by decide), md_382 hmd, e1, wi_ne (by omega)]
  have i100 := u4.2.2 100 (by omega)
  have ev : ∀ k j, k < 16 → ¬ (k = 0 ∧ j = 7) → vw h4 vn k j = vw h vn k j := fun k j hk hj => by
    show mx_i h4 (vn + k) j = mx_i h (vn + k) j
    rw [e4, wi_ne (by omega), e2, wi_ne (by omega), md_382 hmd, e1, wi_i, if_neg (by omega)]
  have e87 : vw h4 vn 0 7 = mx_i h4 382 8 := by
    show mx_i h4 vn 7 = _
    rw [e4, wi_ne (by omega), wi_at rfl rfl, e2, wi_ne (by omega), md_382 hmd, e1, wi_at rfl rfl]
  refine ⟨_, rfl, ⟨?_, ?_⟩, bud_bq (bq_tr (bq_wi' e1) (bq_tr (bq_mdl hmd) (bq_tr (bq_wi' e2) (bq_wi' e4)))), vn, vd, vr, vq, np, ns, nl, agr_G u4 I.1, agr_S u4 I.2.1, ?_, ?_, ?_, ?_, ?_, ?_⟩
  · rw [e4, wi_ne (by decide), e2, thr0]
  · rw [e2, thr382, md_382 hmd, e1, wi_ne (by omega)]; exact C_seed C
  · refine ⟨Cp0_c (ev 1 0 (by omega) (by omega)) (ev 7 0 (by omega) (by omega)) (ev 13 0 (by omega) (by omega)) (f382 3 (by omega)) (f382 4 (by omega)) (f382 7 (by omega)) C.1, ?_, Cp2_c (ev 0 4 (by omega) (by omega)) (fun p hp => ev 15 p (by omega) (by omega)) (fun k k1 k2 => f382 k (by omega)) C.2.2.1, CpU_c (C_np6 C) (ev 1 6 (by omega) (by omega)) (fun k x k1 k2 hx => ev k x (by omega) (by omega)) (fun k k1 k2 => f382 k (by omega)) C.2.2.2.1, CpS_c (C_ns10 C) (fun k x k1 k2 hx => ev k x (by omega) (by omega)) (fun k k1 k2 => f382 k (by omega)) C.2.2.2.2.1, CpL_c (C_nl60 C) (fun j hj => ev 14 j (by omega) (by omega)) (fun k k1 k2 => f382 k (by omega)) C.2.2.2.2.2⟩
    obtain ⟨b1, b2, b3, b4, b5⟩ := C.2.1
    refine ⟨?_, ?_, ?_, e87, ?_⟩
    · rw [ev 0 8 (by omega) (by omega), f382 0 (by omega)]; exact b1
    · rw [ev 0 6 (by omega) (by omega), f382 5 (by omega)]; exact b2
    · rw [ev 0 5 (by omega) (by omega), f382 6 (by omega)]; exact b3
    · rw [f382 0 (by omega), f382 5 (by omega), f382 6 (by omega)]; exact b5
  · exact W_agr ok u4 (by omega) (fun k hk => f382 k (by omega)) I.2.2.2.1
  · refine T_agr u4 (by omega) (by omega) (by rw [u4.2.2 101 (by omega)]) (f381 8 (by omega)) I.2.2.2.2.1
  · rw [i100, f381 12 (by omega)]; exact I.2.2.2.2.2.1
  · exact R_agr u4 (by omega) (by omega) (by rw [i100]) (by rw [i100]) (f381 6 (by omega)) (f382 1 (by omega)) (f382 2 (by omega)) I.2.2.2.2.2.2.1
  · exact K_agr ok u4 (by omega) (by omega) (by rw [i100]) (f381 3 (by omega)) I.2.2.2.2.2.2.2
theorem op_log {LW : mxLW} (ok : LWok LW) (i1 i2 : Int32) : Op LW 178 298 [.int i1, .int i2] (fun k => if k = 3 then 1 else 0) := by
  intro h vn vd vr vq np ns nl I
  have C := I.2.2.1
  have hl := C_nl60 C
  have n0 : (0 : Int32) ≤ mx_i h 382 7 := C_nl C ▸ nI0 (by omega)
  have no : ¬ isI i2 4 → ∀ hm, mdl (mx_ex h) hm → mx_wp 500 298 0 (mx_fr 298 [.ref 381, .int i1, .int i2]) [] hm (fun o2 h2 => ∃ b, o2 = .inl (some (.int b)) ∧ ansOk (fun k => if k = 3 then 1 else 0) (.inr 3) b (mx_i h2 381 0) ∧ bud h h2 ∧ ∃ vn vd vr vq np ns nl, Inv LW h2 vn vd vr vq np ns nl) := by
    intro hc hm hmd
    refine tr_298_0 (agr_G (P := fun _ => False) (agr_mdl hmd) (mxG_ex I.1)) (fun v1 e1 h2 e2 => ?_)
    rw [v191_n' (by decide) (by decide) hc] at e1
    have e1 : v1 = 1 := by simpa using e1
    subst e1
    subst e2
    rw [thr0]
    exact ⟨fun _ => op_fin ok I (smr_tr smr_ex (smr_mdl hmd)) (bud_ex hmd) ⟨rfl, by decide⟩, fun q => absurd (by decide) q⟩
  refine tr_178_0 I.1 I.2.1 ⟨fun c => no (fun e => e.1 c), fun c => ⟨fun c2 => ⟨⟨fun _ => trivial, fun d1 => ⟨fun d2 => ⟨fun _ => trivial, fun _ => ⟨fun _ => ⟨?_, trivial⟩, fun _ => trivial⟩⟩, fun _ => trivial⟩⟩, fun hm hmd => ?_⟩, fun c2 => no (fun e => c2 e.2)⟩⟩
  · rw [C_l C] at d2 ⊢
    obtain ⟨g, hg, rfl⟩ := isI_nI (by omega) (⟨d1, d2⟩ : isI i1 (nI nl))
    obtain ⟨w, hw, rfl⟩ := isI_nI (n := 4) (by decide) ⟨c, c2⟩
    exact bk_vp hg hl hw
  · have ci : isI i2 4 := ⟨c, c2⟩
    refine tr_298_0 (agr_G (P := fun _ => False) (agr_mdl hmd) I.1) (fun v1 e1 h2 e2 => ?_)
    rw [v191_y' (by decide) (by decide) ci] at e1
    have e1 : v1 = 0 := by simpa using e1
    subst e1
    subst e2
    have em : mx_i hm 382 = mx_i h 382 := md_382 hmd 382
    rw [thr0, thr382, em]
    obtain ⟨w, hw, rfl⟩ := isI_nI (n := 4) (by decide) ci
    by_cases cg : isI i1 (nI nl)
    · obtain ⟨g, hg, rfl⟩ := isI_nI (by omega) cg
      have ix : (129 + 4 * nI g + nI w : Int32) = nI (129 + 4 * g + w) := by
        rw [show (129 : Int32) = nI 129 from rfl, show (4 : Int32) = nI 4 from rfl, pk_mul, nI_add, nI_add]
      refine ⟨fun q => absurd q (by decide), fun _ => ⟨⟨fun _ => trivial, fun _ => ⟨?_, trivial⟩⟩, fun v6 e6 => ?_⟩⟩
      · rw [ix]; exact vp_in_nI (by omega) (by decide)
      · refine op_fin ok I (smr_mdl hmd) (bud_mdl hmd) ⟨rfl, ?_⟩
        rw [v191_y n0 (by rw [C_nl C]; exact cg), if_neg (by decide)] at e6
        rw [e6]
        unfold V_3 V_296
        rw [if_neg cg.1, C_l C, if_pos cg.2, if_neg ci.1, if_pos ci.2, ix, nI_clamp (by omega), bk_ix hg hl hw, nI_clamp (by omega)]
        exact C.2.2.2.2.2 g w hg hw
    · refine ⟨fun q => absurd q (by decide), fun _ => ⟨⟨fun _ => trivial, fun q => absurd (v191_n n0 (by rw [C_nl C]; exact cg)) q⟩, fun v6 e6 => ?_⟩⟩
      refine op_fin ok I (smr_mdl hmd) (bud_mdl hmd) ⟨rfl, ?_⟩
      rw [v191_n n0 (by rw [C_nl C]; exact cg), if_pos rfl] at e6
      rw [e6]
      unfold V_3
      rw [C_l C]
      by_cases d1 : i1 < 0
      · rw [if_pos d1]
      · rw [if_neg d1, if_neg (fun d2 => cg ⟨d1, d2⟩)]
