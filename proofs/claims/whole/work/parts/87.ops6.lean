/-! OPS 6: undo, image, back -/
/-- what a law's coupling says of the class's law -/
def LWc (LW : mxLW) : Prop := ∀ u r, LW u r → (u 0 0 = 0 ∨ u 0 0 = 1) ∧ (if u 0 0 = 0 then (-1 : Int32) else u 0 1) = r 1
theorem fo_cpy {A B N : Nat} (hAB : A ≠ B) {F : Nat → mxH → mxH} (hF : ∀ z s, z < N → F z s = mx_wi s A z (mx_i s B z)) : ∀ n, n ≤ N → ∀ s, mxU (fun b => b = A) s (fo F n s) ∧ ∀ j, mx_i (fo F n s) A j = if j < n then mx_i s B j else mx_i s A j := by
  intro n
  induction n with
  | zero => intro _ s; exact ⟨mxU_rfl, fun j => by rw [if_neg (by omega)]; rfl⟩
  | succ n ih =>
    intro hn s
    obtain ⟨u, e⟩ := ih (by omega) s
    have eF : fo F (n + 1) s = mx_wi (fo F n s) A n (mx_i s B n) := by
      show F n (fo F n s) = _
      rw [hF n _ (by omega), mxU_i u (Ne.symm hAB)]
    refine ⟨mxU_tr u (mxU_wi' eF rfl), fun j => ?_⟩
    rw [eF]
    by_cases hj : j = n
    · rw [wi_at rfl hj, if_pos (by omega), hj]
    · rw [wi_nj hj, e]
      by_cases h2 : j < n
      · rw [if_pos h2, if_pos (by omega)]
      · rw [if_neg h2, if_neg (by omega)]
theorem f300 {n c : Nat} (hn : n ≤ 369) (hc : c ≤ 11) (s : mxH) (es : mx_i s 381 6 = nI c) : mxU (fun b => b = 382) s (fo F_300_16 n s) ∧ ∀ j, mx_i (fo F_300_16 n s) 382 j = if j < n then mx_i s 385 (369 * c + j) else mx_i s 382 j := by
  induction n with
  | zero => exact ⟨mxU_rfl, fun j => by rw [if_neg (by omega)]; rfl⟩
  | succ n ih =>
    obtain ⟨u, e⟩ := ih (by omega)
    have e6 : mx_i (fo F_300_16 n s) 381 6 = nI c := by rw [mxU_i u (by decide)]; exact es
    have e1 : (369 * nI c + nI n).toNatClampNeg = 369 * c + n := by rw [show (369 : Int32) = nI 369 from rfl, pk_mul, nI_add, nI_clamp (by omega)]
    have eF : fo F_300_16 (n + 1) s = mx_wi (fo F_300_16 n s) 382 n (mx_i s 385 (369 * c + n)) := by
      show mx_wi (fo F_300_16 n s) 382 (nI n).toNatClampNeg (mx_i (fo F_300_16 n s) 385 ((369 * (mx_i (fo F_300_16 n s) 381 6)) + (nI n)).toNatClampNeg) = _
      rw [e6, e1, nI_clamp (by omega), mxU_i u (b := 385) (by decide)]
    refine ⟨mxU_tr u (mxU_wi' eF rfl), fun j => ?_⟩
    rw [eF]
    by_cases hj : j = n
    · rw [wi_at rfl hj, if_pos (by omega), hj]
    · rw [wi_nj hj, e]
      by_cases h2 : j < n
      · rw [if_pos h2, if_pos (by omega)]
      · rw [if_neg h2, if_neg (by omega)]
theorem op_undo {LW : mxLW} (ok : LWok LW) : Op LW 179 300 [] (fun _ => 0) := by
  intro h vn vd vr vq np ns nl I
  have hS := I.2.1.2.2.2.2
  obtain ⟨f, c, a1, a2, a3, a4, a5, a6⟩ := I.2.2.2.2.2.2.1
  refine tr_179_0 I.1 I.2.1 ⟨fun c0 h2 e2 => ?_, fun c0 hm hmd => ?_⟩
  · rw [a4] at c0
    have hc : 0 < c := (nI_ltI (a := 0) (by decide) (by omega)).mp c0
    have b12 : mx_i h2 100 12 = nI f := by rw [e2, wi_nj (by decide)]; exact a3
    have b13 : mx_i h2 100 13 = nI (c - 1) := by
      rw [e2, wi_at rfl rfl, a4]
      obtain ⟨m, rfl⟩ : ∃ m, c = m + 1 := ⟨c - 1, by omega⟩
      rw [nI_pred]; rfl
    have hmod := Nat.mod_lt (f + (c - 1)) (show 12 > 0 by decide)
    rw [b12, b13, nI_add, rem12 (by omega)]
    refine ⟨vp_in_nI (by omega) (by decide), fun vk ek h11 cp hm hmd => ?_⟩
    rw [nI_clamp (by omega)] at ek
    subst ek
    obtain ⟨⟨y1, y2, y3, y4⟩, y5, y6⟩ := a6 (c - 1) (by omega)
    have um : agr (fun b => b = 100 ∨ (vn ≤ b ∧ b < vn + 16)) h hm := agr_tr (agr_wi' e2 (.inl rfl)) (agr_tr (agr_mono (fun b hb => by omega) (agr_U cp.1)) (agr_mdl hmd))
    have bm : bq h hm := bq_tr (bq_wi' e2) (bq_tr (bq_U cp.1) (bq_mdl hmd))
    refine tr_300_0 (agr_G um I.1) (fun h1 e1 => ?_)
    have a6m : mx_i h1 381 6 = nI c := by rw [e1, wi_nj (by decide), um.2.2 381 (by omega)]; exact a5
    refine ⟨fun q => absurd (a6m.symm.trans q) (nI_ne0 hc (by omega)), fun _ h5 e5 => ?_⟩
    have a65 : mx_i h5 381 6 = nI (c - 1) := by
      rw [e5, wi_at rfl rfl, a6m]
      obtain ⟨m, rfl⟩ : ∃ m, c = m + 1 := ⟨c - 1, by omega⟩
      rw [nI_pred]; rfl
    have u5 : agr (fun b => b = 381) hm h5 := agr_tr (agr_wi' e1 rfl) (agr_wi' e5 rfl)
    have b5 : bq hm h5 := bq_tr (bq_wi' e1) (bq_wi' e5)
    refine lp_300_16 (s0 := h5) (n := 369) 0 (agr_G u5 (agr_G um I.1)) (fun _ _ _ => rfl) (by decide) (by decide) (fun z _ hz => ?_) ?_
    · obtain ⟨u, e⟩ := f300 (n := z) (c := c - 1) (by omega) (by omega) h5 a65
      refine ⟨?_, vp_in_nI (by omega) (by decide), trivial⟩
      rw [fz_fo, mxU_i u (b := 381) (by decide), a65, show (369 : Int32) = nI 369 from rfl, pk_mul, nI_add]
      exact vp_in_nI (by omega) (by decide)
    · rw [fz_fo]
      obtain ⟨u, e⟩ := f300 (n := 369) (c := c - 1) (by omega) (by omega) h5 a65
      generalize fo F_300_16 369 h5 = h9 at u e
      have U : agr (fun b => b = 100 ∨ (vn ≤ b ∧ b < vn + 16) ∨ b = 381 ∨ b = 382) h h9 := agr_tr (agr_mono (fun b hb => by omega) um) (agr_tr (agr_mono (fun b hb => by omega) u5) (agr_mono (fun b hb => by omega) (agr_U u)))
      have i100 : ∀ j, j ≠ 13 → mx_i h9 100 j = mx_i h 100 j := fun j hj => by
        rw [mxU_i u (b := 100) (by decide), u5.2.2 100 (by decide), md_382 hmd, mxU_i cp.1 (by omega), e2, wi_nj hj]
      have i10013 : mx_i h9 100 13 = nI (c - 1) := by
        rw [mxU_i u (b := 100) (by decide), u5.2.2 100 (by decide), md_382 hmd, mxU_i cp.1 (by omega)]; exact b13
      have i381 : ∀ j, j ≠ 0 → j ≠ 6 → mx_i h9 381 j = mx_i h 381 j := fun j j0 j6 => by
        rw [mxU_i u (b := 381) (by decide), e5, wi_nj j6, e1, wi_nj j0, um.2.2 381 (by omega)]
      have i385 : mx_i h5 385 = mx_i h 385 := by rw [u5.2.2 385 (by decide), um.2.2 385 (by omega)]
      have i382 : mx_i h5 382 = mx_i h 382 := by rw [u5.2.2 382 (by decide), um.2.2 382 (by omega)]
      have elo : ∀ j, j < 369 → mx_i h9 382 j = mx_i h 385 (369 * (c - 1) + j) := fun j hj => by rw [e, if_pos hj, i385]
      have ehi : ∀ j, 369 ≤ j → mx_i h9 382 j = mx_i h 382 j := fun j hj => by rw [e, if_neg (by omega), i382]
      have r1 : mx_i h9 382 1 = mx_i h 382 1 := by rw [elo 1 (by omega)]; exact y5
      have r2 : mx_i h9 382 2 = mx_i h 382 2 := by rw [elo 2 (by omega)]; exact y6
      refine ⟨1, rfl, ⟨?_, rfl⟩, bud_bq (bq_tr bm (bq_tr b5 (bq_U u))), vn, vd, vr, vq, y1, y2, y3, agr_G U I.1, agr_S U I.2.1, ?_, ?_, ?_, ?_, ?_, ?_⟩
      · rw [mxU_i u (b := 381) (by decide), e5, wi_nj (by decide), e1, thr0]
      · refine CpN_congr (fun k j hk => ?_) (fun k hk _ _ => elo k hk) y4
        show mx_i h9 (vn + k) j = mx_i h (189 + 16 * ((f + (c - 1)) % 12) + k) j
        have hk16 : k < 16 := by unfold inV at hk; omega
        rw [mxU_i u (b := vn + k) (by omega), u5.2.2 _ (by omega), md_382 hmd, cp.2 k j hk (by omega) hk16, e2, wi_ne (by omega)]
      · refine W_agr ok U (by omega) (fun k hk => ?_) I.2.2.2.1
        rcases hk with rfl | rfl | hk
        · exact r1
        · exact r2
        · exact ehi k hk.1
      · exact T_agr U (by omega) (by omega) (by rw [U.2.2 101 (by omega)]) (i381 8 (by decide) (by decide)) I.2.2.2.2.1
      · rw [i100 14 (by decide), i381 12 (by decide) (by decide)]; exact I.2.2.2.2.2.1
      · refine ⟨f, c - 1, a1, by omega, by rw [i100 12 (by decide)]; exact a3, i10013, by rw [mxU_i u (b := 381) (by decide)]; exact a65, fun i hi => ?_⟩
        obtain ⟨⟨x1, x2, x3, x4⟩, x5, x6⟩ := a6 i (by omega)
        rw [r1, r2, U.2.2 385 (by omega)]
        refine ⟨⟨x1, x2, x3, CpN_congr (fun k j hk => ?_) (fun _ _ _ _ => rfl) x4⟩, x5, x6⟩
        have := Nat.mod_lt (f + i) (show 12 > 0 by decide)
        show mx_i h9 (189 + 16 * ((f + i) % 12) + k) j = mx_i h (189 + 16 * ((f + i) % 12) + k) j
        rw [U.2.2 _ (by unfold inV at hk; omega)]
      · exact K_agr ok U (by omega) (by omega) (i100 10 (by decide)) (i381 3 (by decide) (by decide)) I.2.2.2.2.2.2.2
  · have hc : c = 0 := by
      rw [a4] at c0
      rcases Nat.eq_zero_or_pos c with q | q
      · exact q
      · exact absurd (nI_lt (a := 0) q (by omega)) c0
    subst hc
    refine tr_300_0 (agr_G (P := fun _ => False) (agr_mdl hmd) I.1) (fun h1 e1 => ?_)
    have a6m : mx_i h1 381 6 = 0 := by rw [e1, wi_nj (by decide), md_382 hmd]; exact a5
    refine ⟨fun _ => ?_, fun q => absurd a6m q⟩
    subst e1
    exact op_fin ok I (smr_mdl hmd) (bud_mdl hmd) ⟨rfl, rfl⟩
/-- a call that answers nothing -/
def OpV (LW : mxLW) (yc ym : Nat) : Prop := ∀ (h : mxH) (vn vd vr vq np ns nl : Nat), Inv LW h vn vd vr vq np ns nl → mx_wp 500 yc 0 (mx_fr yc [.ref 100]) [] h (fun o h1 => o = .inl none ∧ ∀ hm, mdl h1 hm → mx_wp 500 ym 0 (mx_fr ym [.ref 381]) [] hm (fun o2 h2 => o2 = .inl none ∧ bud h h2 ∧ ∃ vn vd vr vq np ns nl, Inv LW h2 vn vd vr vq np ns nl))
theorem op_image {LW : mxLW} (ok : LWok LW) (lc : LWc LW) : OpV LW 180 301 := by
  intro h vn vd vr vq np ns nl I
  have hS := I.2.1.2.2.2.2
  refine tr_180_0 I.1 I.2.1 (fun h2 cp => ⟨?_, fun h8 cl h12 e12 => ⟨rfl, fun hm hmd => ?_⟩⟩)
  · rw [mxU_i cp.1 (by omega)]; exact (lc _ _ I.2.2.2.1).1
  · have um : agr (fun b => b = 100 ∨ (165 ≤ b ∧ b < 186)) h hm := agr_tr (agr_mono (fun b hb => by omega) (agr_U cp.1)) (agr_tr (agr_mono (fun b hb => by omega) (agr_U cl.1)) (agr_tr (agr_wi' e12 (.inl rfl)) (agr_mdl hmd)))
    have bm : bq h hm := bq_tr (bq_U cp.1) (bq_tr (bq_U cl.1) (bq_tr (bq_wi' e12) (bq_mdl hmd)))
    refine tr_301_0 (agr_G um I.1) (fun h1 e1 => ?_)
    have hF : ∀ z s, z < 769 → F_301_5 z s = mx_wi s 383 z (mx_i s 382 z) := fun z s hz => by unfold F_301_5; rw [nI_clamp (by omega)]
    refine lp_301_5 (s0 := h1) (n := 769) 0 (e1 ▸ mxG_wi (agr_G um I.1)) (fun _ _ _ => rfl) (by decide) (by decide) (fun z _ hz => ⟨vp_in_nI (by omega) (by decide), trivial⟩) (fun h9 e9 => ?_)
    rw [fz_fo] at e9
    obtain ⟨u, e⟩ := fo_cpy (by decide) hF 769 (Nat.le_refl _) h1
    have U : agr (fun b => b = 100 ∨ (165 ≤ b ∧ b < 186) ∨ b = 381 ∨ b = 383) h h9 := agr_tr (agr_mono (fun b hb => by omega) um) (agr_tr (agr_wi' e1 (by omega)) (agr_tr (agr_mono (fun b hb => by omega) (agr_U u)) (agr_wi' e9 (by omega))))
    have i100 : ∀ j, j ≠ 10 → mx_i h9 100 j = mx_i h 100 j := fun j hj => by
      rw [e9, wi_ne (by decide), mxU_i u (b := 100) (by decide), e1, wi_ne (by decide), md_382 hmd, e12, wi_nj hj, mxU_i cl.1 (by omega), mxU_i cp.1 (by omega)]
    have i10010 : mx_i h9 100 10 = 1 := by
      rw [e9, wi_ne (by decide), mxU_i u (b := 100) (by decide), e1, wi_ne (by decide), md_382 hmd, e12, wi_at rfl rfl]
    have i381 : ∀ j, j ≠ 0 → j ≠ 3 → mx_i h9 381 j = mx_i h 381 j := fun j j0 j6 => by
      rw [e9, wi_nj j6, mxU_i u (b := 381) (by decide), e1, wi_nj j0, um.2.2 381 (by omega)]
    have i382 : mx_i h9 382 = mx_i h 382 := U.2.2 382 (by omega)
    have i383 : ∀ k, k < 769 → mx_i h9 383 k = mx_i h 382 k := fun k hk => by
      rw [e9, wi_ne (by decide), e, if_pos hk, e1, wi_ne (by decide), um.2.2 382 (by omega)]
    refine ⟨rfl, bud_bq (bq_tr bm (bq_tr (bq_wi' e1) (bq_tr (bq_U u) (bq_wi' e9)))), vn, vd, vr, vq, np, ns, nl, agr_G U I.1, agr_S U I.2.1, ?_, ?_, ?_, ?_, ?_, ?_⟩
    · rw [i382]
      refine CpN_congr (fun k j hk => ?_) (fun _ _ _ _ => rfl) I.2.2.1
      show mx_i h9 (vn + k) j = mx_i h (vn + k) j
      rw [U.2.2 _ (by unfold inV at hk; omega)]
    · exact W_agr ok U (by omega) (fun k _ => by rw [i382]) I.2.2.2.1
    · exact T_agr U (by omega) (by omega) (by rw [U.2.2 101 (by omega)]) (i381 8 (by decide) (by decide)) I.2.2.2.2.1
    · rw [i100 14 (by decide), i381 12 (by decide) (by decide)]; exact I.2.2.2.2.2.1
    · exact R_agr U (by omega) (by omega) (i100 12 (by decide)) (i100 13 (by decide)) (i381 6 (by decide) (by decide)) (by rw [i382]) (by rw [i382]) I.2.2.2.2.2.2.1
    · have e3 : mx_i h9 381 3 = 1 := by rw [e9, wi_at rfl rfl]
      refine ⟨by rw [i10010, e3], .inr ⟨e3, ⟨np, ns, nl, CpN_congr (fun k j hk => ?_) (fun k hk _ _ => i383 k (by omega)) I.2.2.1⟩, ok _ _ _ _ (fun k j hk => ?_) (fun k hk => i383 k (by omega)) I.2.2.2.1⟩⟩
      · show mx_i h9 (165 + k) j = mx_i h (vn + k) j
        have hk16 : k < 16 := by unfold inV at hk; omega
        rw [e9, wi_ne (by omega), mxU_i u (by omega), e1, wi_ne (by omega), md_382 hmd, e12, wi_ne (by omega), mxU_i cl.1 (by omega), cp.2 k j hk (by omega) hk16]
      · show mx_i h9 (181 + k) j = mx_i h (vr + k) j
        have hk5 : k < 5 := by unfold inL at hk; omega
        rw [e9, wi_ne (by omega), mxU_i u (by omega), e1, wi_ne (by omega), md_382 hmd, e12, wi_ne (by omega), cl.2 k j hk, mxU_i cp.1 (by omega)]
theorem op_back {LW : mxLW} (ok : LWok LW) (lc : LWc LW) : Op LW 181 302 [] (fun _ => 0) := by
  intro h vn vd vr vq np ns nl I
  have hS := I.2.1.2.2.2.2
  obtain ⟨k1, k2⟩ := I.2.2.2.2.2.2.2
  refine tr_181_0 I.1 I.2.1 ⟨fun c hm hmd => ?_, fun c h3 cp => ⟨?_, fun h9 cl h13 e13 hm hmd => ?_⟩⟩
  · refine tr_302_0 (agr_G (P := fun _ => False) (agr_mdl hmd) I.1) (fun h1 e1 => ?_)
    have a3 : mx_i h1 381 3 = 0 := by rw [e1, wi_nj (by decide), md_382 hmd, ← k1]; exact c
    refine ⟨fun _ => ?_, fun q => absurd a3 q⟩
    subst e1
    exact op_fin ok I (smr_mdl hmd) (bud_mdl hmd) ⟨rfl, rfl⟩
  · rcases k2 with k2 | ⟨-, -, k4⟩
    · exact absurd (k1.trans k2) c
    · rw [mxU_i cp.1 (by omega)]; exact (lc _ _ k4).1
  · rcases k2 with k2 | ⟨k2, ⟨y1, y2, y3, y4⟩, k4⟩
    · exact absurd (k1.trans k2) c
    have um : agr (fun b => b = 100 ∨ (vn ≤ b ∧ b < vn + 16) ∨ (vr ≤ b ∧ b < vr + 5)) h hm := agr_tr (agr_mono (fun b hb => by omega) (agr_U cp.1)) (agr_tr (agr_mono (fun b hb => by omega) (agr_U cl.1)) (agr_tr (agr_wi' e13 (.inl rfl)) (agr_mdl hmd)))
    have bm : bq h hm := bq_tr (bq_U cp.1) (bq_tr (bq_U cl.1) (bq_tr (bq_wi' e13) (bq_mdl hmd)))
    refine tr_302_0 (agr_G um I.1) (fun h1 e1 => ?_)
    have a3 : mx_i h1 381 3 = 1 := by rw [e1, wi_nj (by decide), um.2.2 381 (by omega)]; exact k2
    refine ⟨fun q => absurd (a3.symm.trans q) (by decide), fun _ => ?_⟩
    have hF : ∀ z s, z < 769 → F_302_10 z s = mx_wi s 382 z (mx_i s 383 z) := fun z s hz => by unfold F_302_10; rw [nI_clamp (by omega)]
    refine lp_302_10 (s0 := h1) (n := 769) 0 (e1 ▸ mxG_wi (agr_G um I.1)) (fun _ _ _ => rfl) (by decide) (by decide) (fun z _ hz => ⟨vp_in_nI (by omega) (by decide), trivial⟩) (fun h7 e7 => ?_)
    rw [fz_fo] at e7
    obtain ⟨u, e⟩ := fo_cpy (by decide) hF 769 (Nat.le_refl _) h1
    have U : agr (fun b => b = 100 ∨ (vn ≤ b ∧ b < vn + 16) ∨ (vr ≤ b ∧ b < vr + 5) ∨ b = 381 ∨ b = 382) h h7 := agr_tr (agr_mono (fun b hb => by omega) um) (agr_tr (agr_wi' e1 (by omega)) (agr_tr (agr_mono (fun b hb => by omega) (agr_U u)) (agr_wi' e7 (by omega))))
    have i100 : ∀ j, j ≠ 13 → mx_i h7 100 j = mx_i h 100 j := fun j hj => by
      rw [e7, wi_ne (by decide), mxU_i u (b := 100) (by decide), e1, wi_ne (by decide), md_382 hmd, e13, wi_nj hj, mxU_i cl.1 (by omega), mxU_i cp.1 (by omega)]
    have i10013 : mx_i h7 100 13 = 0 := by
      rw [e7, wi_ne (by decide), mxU_i u (b := 100) (by decide), e1, wi_ne (by decide), md_382 hmd, e13, wi_at rfl rfl]
    have i381 : ∀ j, j ≠ 0 → j ≠ 6 → mx_i h7 381 j = mx_i h 381 j := fun j j0 j6 => by
      rw [e7, wi_nj j6, mxU_i u (b := 381) (by decide), e1, wi_nj j0, um.2.2 381 (by omega)]
    have i382 : ∀ k, k < 769 → mx_i h7 382 k = mx_i h 383 k := fun k hk => by
      rw [e7, wi_ne (by decide), e, if_pos hk, e1, wi_ne (by decide), um.2.2 383 (by omega)]
    refine ⟨1, rfl, ⟨?_, rfl⟩, bud_bq (bq_tr bm (bq_tr (bq_wi' e1) (bq_tr (bq_U u) (bq_wi' e7)))), vn, vd, vr, vq, y1, y2, y3, agr_G U I.1, agr_S U I.2.1, ?_, ?_, ?_, ?_, ?_, ?_⟩
    · rw [e7, wi_nj (by decide), mxU_i u (b := 381) (by decide), e1, thr0]
    · refine CpN_congr (fun k j hk => ?_) (fun k hk _ _ => i382 k (by omega)) y4
      show mx_i h7 (vn + k) j = mx_i h (165 + k) j
      have hk16 : k < 16 := by unfold inV at hk; omega
      rw [e7, wi_ne (by omega), mxU_i u (by omega), e1, wi_ne (by omega), md_382 hmd, e13, wi_ne (by omega), mxU_i cl.1 (by omega), cp.2 k j hk (by omega) hk16]
    · refine ok _ _ _ _ (fun k j hk => ?_) (fun k hk => i382 k (by omega)) k4
      show mx_i h7 (vr + k) j = mx_i h (181 + k) j
      have hk5 : k < 5 := by unfold inL at hk; omega
      rw [e7, wi_ne (by omega), mxU_i u (by omega), e1, wi_ne (by omega), md_382 hmd, e13, wi_ne (by omega), cl.2 k j hk, mxU_i cp.1 (by omega)]
    · exact T_agr U (by omega) (by omega) (by rw [U.2.2 101 (by omega)]) (i381 8 (by decide) (by decide)) I.2.2.2.2.1
    · rw [i100 14 (by decide), i381 12 (by decide) (by decide)]; exact I.2.2.2.2.2.1
    · obtain ⟨f, c0, a1, a2, a3', a4, a5, a6⟩ := I.2.2.2.2.2.2.1
      exact ⟨f, 0, a1, by omega, by rw [i100 12 (by decide)]; exact a3', i10013, by rw [e7, wi_at rfl rfl]; rfl, fun i hi => absurd hi (Nat.not_lt_zero _)⟩
    · exact K_agr ok U (by omega) (by omega) (i100 10 (by decide)) (i381 3 (by decide) (by decide)) I.2.2.2.2.2.2.2
