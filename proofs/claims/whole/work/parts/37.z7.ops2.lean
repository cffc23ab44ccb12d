/-! OPS 2: fault, end, seed, place, stone, count, heap, log -/
theorem agr_wi' {P : Nat → Prop} {h h1 : mxH} {a k : Nat} {v : Int32} (e : h1 = mx_wi h a k v) (hp : P a) : agr P h h1 := e ▸ agr_wi hp
theorem op_fault {LW : mxLW} (ok : LWok LW) : Op LW 136 236 [] (fun _ => 0) := by
  intro h vn vd vr vq np ns nl I
  refine tr_136_0 I.1 I.2.1 (fun hm hmd => ?_)
  refine tr_236_0 (agr_G (P := fun _ => False) (agr_mdl hmd) I.1) (fun h1 e1 => ?_)
  subst e1
  refine op_fin ok I (smr_mdl hmd) (bud_mdl hmd) ⟨rfl, ?_⟩
  rw [wi_nj (by decide), md_382 hmd]; exact I.2.2.2.2.2.1
theorem op_end {LW : mxLW} (ok : LWok LW) (i1 : Int32) : Op LW 133 208 [.int i1] (fun _ => 0) := by
  intro h vn vd vr vq np ns nl I
  obtain ⟨n, t1, t2, t3, t4⟩ := I.2.2.2.2.1
  have n0 : (0 : Int32) ≤ nI n := nI0 (by omega)
  have hno : ∀ (hm : mxH), mdl h hm → (i1 < 0 ∨ nI n < i1) → mx_wp 500 208 0 (mx_fr 208 [.ref 381, .int i1]) [] hm (fun o2 h2 => ∃ b, o2 = .inl (some (.int b)) ∧ ansOk (fun _ => 0) (.inl (some (.int 0))) b (mx_i h2 381 0) ∧ bud h h2 ∧ ∃ vn vd vr vq np ns nl, Inv LW h2 vn vd vr vq np ns nl) := by
    intro hm hmd hc
    refine tr_208_0 (agr_G (P := fun _ => False) (agr_mdl hmd) I.1) (fun h1 e1 => ?_)
    subst e1
    rw [wi_nj (by decide), md_382 hmd, t3]
    have e : V_191 (mx_i (mx_wi hm 381 0 0) 382) i1 0 (nI n) = 0 := by
      unfold V_191
      rcases hc with hc | hc
      · rw [if_pos hc]
      · simp [hc]
    exact ⟨fun _ => op_fin ok I (smr_mdl hmd) (bud_mdl hmd) ⟨rfl, rfl⟩, fun q => absurd e q⟩
  refine tr_133_0 I.1 I.2.1 ⟨fun c hm hmd => hno hm hmd (.inl c), fun c => ⟨fun c2 hm hmd => hno hm hmd (.inr (t2 ▸ c2)), fun c2 h3 e3 hm hmd => ?_⟩⟩
  have u3 : agr (fun b => b = 101 ∨ b = 381) h h3 := e3 ▸ agr_wi (.inl rfl)
  have um : agr (fun b => b = 101 ∨ b = 381) h hm := agr_tr u3 (agr_mdl hmd)
  rw [t2] at c2
  have m8 : mx_i hm 381 8 = nI n := by rw [md_382 hmd, e3, wi_ne (by decide)]; exact t3
  refine tr_208_0 (agr_G um I.1) (fun h1 e1 => ?_)
  have m8' : mx_i h1 381 8 = nI n := by rw [e1, wi_nj (by decide)]; exact m8
  rw [m8']
  have e : V_191 (mx_i h1 382) i1 0 (nI n) = 1 := by
    unfold V_191
    rw [if_neg c, if_neg c2]
  refine ⟨fun q => absurd (e ▸ q) (by decide), fun _ h5 e5 => ?_⟩
  have u5 : agr (fun b => b = 101 ∨ b = 381) h h5 := agr_tr um (agr_tr (agr_wi' e1 (Or.inr rfl)) (agr_wi' e5 (Or.inr rfl)))
  have f381 : ∀ k, k ≠ 0 → k ≠ 8 → mx_i h5 381 k = mx_i h 381 k := fun k k0 k8 => by
    rw [e5, wi_nj k8, e1, wi_nj k0, md_382 hmd, e3, wi_ne (by decide)]
  have i100 := u5.2.2 100 (by omega)
  have i382 := u5.2.2 382 (by omega)
  have hS := I.2.1.2.2.2.2
  refine ⟨1, rfl, ⟨?_, rfl⟩, ⟨?_, ?_⟩, vn, vd, vr, vq, np, ns, nl, agr_G u5 I.1, agr_S u5 I.2.1, ?_, ?_, ?_, ?_, ?_, ?_⟩
  · rw [e5, wi_nj (by decide), e1, thr0]
  · rw [e5, e1]; show mx_x hm ≤ _; rw [hmd.2.1, e3]; show mx_x h ≤ _; omega
  · rw [e5, e1]; show mx_n hm ≤ _; rw [hmd.2.2.1, e3]; show mx_n h ≤ _; omega
  · rw [i382]
    refine CpN_congr (fun k j hk => ?_) (fun _ _ _ _ => rfl) I.2.2.1
    show mx_i h5 (vn + k) j = mx_i h (vn + k) j
    rw [u5.2.2 _ (by unfold inV at hk; omega)]
  · exact W_agr ok u5 (by omega) (fun k _ => by rw [i382]) I.2.2.2.1
  · obtain ⟨j, hj, rfl⟩ := nI_of c
    have hjn : j ≤ n := by
      rcases Nat.lt_or_ge n j with q | q
      · exact absurd (nI_lt q hj) c2
      · exact q
    refine ⟨j, by omega, ?_, ?_, fun k hk => ?_⟩
    · rw [e5, wi_ne (by decide), e1, wi_ne (by decide), md_382 hmd, e3, wi_at rfl rfl]
    · rw [e5, wi_at rfl rfl]
    · rw [u5.2.2 386 (by omega), u5.2.2 102 (by omega)]
      exact t4 k (by omega)
  · rw [i100, f381 12 (by decide) (by decide)]; exact I.2.2.2.2.2.1
  · exact R_agr u5 (by omega) (by omega) (by rw [i100]) (by rw [i100]) (f381 6 (by decide) (by decide)) (by rw [i382]) (by rw [i382]) I.2.2.2.2.2.2.1
  · exact K_agr ok u5 (by omega) (by omega) (by rw [i100]) (f381 3 (by decide) (by decide)) I.2.2.2.2.2.2.2

def mPla (r : Nat → Int32) (i1 i2 : Int32) : Int32 := if i2 = 0 then r (9 + i1).toNatClampNeg else if i2 = 1 then r (21 + i1).toNatClampNeg else if i2 = 2 then V_247 r i1 else V_248 r i1
theorem op_place {LW : mxLW} (ok : LWok LW) (i1 i2 : Int32) : Op LW 141 249 [.int i1, .int i2] (fun k => if k = 2 then 1 else if k = 3 then 2 else 0) := by
  intro h vn vd vr vq np ns nl I
  have C := I.2.2.1
  have h6 := C_np6 C
  have leaf : ∀ v, isI i1 12 → isI i2 4 → v = mPla (mx_i h 382) i1 i2 → ∀ hm, mdl h hm → mx_wp 500 249 0 (mx_fr 249 [.ref 381, .int i1, .int i2]) [] hm (fun o2 h2 => ∃ b, o2 = .inl (some (.int b)) ∧ ansOk (fun k => if k = 2 then 1 else if k = 3 then 2 else 0) (.inl (some (.int v))) b (mx_i h2 381 0) ∧ bud h h2 ∧ ∃ vn vd vr vq np ns nl, Inv LW h2 vn vd vr vq np ns nl) := by
    intro v c c2 hv hm hmd
    have em := md_382 hmd 382
    refine tr_249_0 (agr_G (P := fun _ => False) (agr_mdl hmd) I.1) ⟨v01, fun v2 e2 h3 e3 => ?_⟩
    unfold V_202 at e2
    rw [v191_y' (by decide) (by decide) c, v191_y' (by decide) (by decide) c2] at e2
    have e2 : v2 = 0 := by simpa using e2
    subst e2
    subst e3
    rw [thr0, thr382, em]
    obtain ⟨p, hp, rfl⟩ := isI_nI (n := 12) (by decide) c
    refine ⟨fun q => absurd q (by decide), fun _ => ⟨⟨fun _ => ⟨vpP hp, trivial⟩, fun _ => ⟨fun _ => ⟨vpP hp, trivial⟩, fun _ => ⟨fun _ => ⟨C_rp C, trivial⟩, fun _ => ⟨C_rs C, trivial⟩⟩⟩⟩, fun v7 e7 => ?_⟩⟩
    exact op_fin ok I (smr_mdl hmd) (bud_mdl hmd) ⟨rfl, by rw [hv, e7]; rfl⟩
  refine tr_141_0 I.1 I.2.1 ⟨fun c => ?_, fun c hm hmd => ?_⟩
  · have c' := c
    obtain ⟨p, hp, rfl⟩ := isI_nI (n := 12) (by decide) c'
    have cl : (nI p).toNatClampNeg = p := nI_clamp (by omega)
    have c9 : (9 + nI p).toNatClampNeg = 9 + p := by rw [show (9 : Int32) = nI 9 from rfl, nI_add, nI_clamp (by omega)]
    have c21 : (21 + nI p).toNatClampNeg = 21 + p := by rw [show (21 : Int32) = nI 21 from rfl, nI_add, nI_clamp (by omega)]
    rw [cl]
    refine ⟨fun q => ⟨vp_in_nI hp (by decide), leaf _ c ?_ ?_⟩, fun q0 => ⟨fun q v ev => leaf _ c ?_ ?_, fun q1 => ⟨fun q => ⟨C_cp C, leaf _ c ?_ ?_⟩, fun q2 => ⟨fun q => ⟨C_cs C, leaf _ c ?_ ?_⟩, fun q3 hm hmd => ?_⟩⟩⟩⟩
    · subst q; unfold isI; decide
    · subst q; show _ = mx_i h 382 _; rw [c9]; exact C_slope C hp
    · subst q; unfold isI; decide
    · subst q
      show _ = mx_i h 382 _
      rw [c21, ev, cm_porch C hp, (C.2.2.1 p hp).2.2, tbv _ (by omega)]
      cases bt (vw h vn 0 4) p <;> simp
    · subst q; unfold isI; decide
    · subst q; exact cm_bitsAt C _
    · subst q; unfold isI; decide
    · subst q; exact cm_laid C _
    · have em := md_382 hmd 382
      have c2 : ¬ isI i2 4 := fun e => by
        obtain ⟨j, hj, rfl⟩ := isI_nI (n := 4) (by decide) e
        have : j = 0 ∨ j = 1 ∨ j = 2 ∨ j = 3 := by omega
        rcases this with rfl | rfl | rfl | rfl
        · exact q0 rfl
        · exact q1 rfl
        · exact q2 rfl
        · exact q3 rfl
      refine tr_249_0 (agr_G (P := fun _ => False) (agr_mdl hmd) (mxG_ex I.1)) ⟨v01, fun v2 e2 h3 e3 => ?_⟩
      unfold V_202 at e2
      rw [v191_y' (by decide) (by decide) c, v191_n' (by decide) (by decide) c2] at e2
      have e2 : v2 = 2 := by simpa using e2
      subst e2
      subst e3
      rw [thr0]
      exact ⟨fun _ => op_fin ok I (smr_tr smr_ex (smr_mdl hmd)) (bud_ex hmd) ⟨rfl, by decide⟩, fun q => absurd (by decide) q⟩
  · refine tr_249_0 (agr_G (P := fun _ => False) (agr_mdl hmd) (mxG_ex I.1)) ⟨v01, fun v2 e2 h3 e3 => ?_⟩
    unfold V_202 at e2
    rw [v191_n' (by decide) (by decide) c] at e2
    have e2 : v2 = 1 := by simpa using e2
    subst e2
    subst e3
    rw [thr0]
    exact ⟨fun _ => op_fin ok I (smr_tr smr_ex (smr_mdl hmd)) (bud_ex hmd) ⟨rfl, by decide⟩, fun q => absurd (by decide) q⟩
def mSto (r : Nat → Int32) (i1 i2 : Int32) : Int32 := if i2 < 4 then V_198 r i1 i2 else if i2 = 4 then (if V_198 r i1 3 = 0 then V_198 r i1 4 else -1) else if V_198 r i1 3 = 0 then V_196 r (V_198 r i1 4) 2 else if V_198 r i1 3 = 1 then V_198 r i1 5 else -1
theorem op_stone {LW : mxLW} (ok : LWok LW) (i1 i2 : Int32) : Op LW 140 246 [.int i1, .int i2] (fun k => if k = 2 then 1 else if k = 3 then 2 else 0) := by
  intro h vn vd vr vq np ns nl I
  have C := I.2.2.1
  have h6 := C_np6 C
  have h10 := C_ns10 C
  have n0 : (0 : Int32) ≤ mx_i h 382 4 := C_ns C ▸ nI0 (by omega)
  have leaf : ∀ v z, z < ns → i1 = nI z → isI i2 6 → v = mSto (mx_i h 382) i1 i2 → ∀ hm, mdl h hm → mx_wp 500 246 0 (mx_fr 246 [.ref 381, .int i1, .int i2]) [] hm (fun o2 h2 => ∃ b, o2 = .inl (some (.int b)) ∧ ansOk (fun k => if k = 2 then 1 else if k = 3 then 2 else 0) (.inl (some (.int v))) b (mx_i h2 381 0) ∧ bud h h2 ∧ ∃ vn vd vr vq np ns nl, Inv LW h2 vn vd vr vq np ns nl) := by
    intro v z hz e1 c2 hv hm hmd
    have em := md_382 hmd 382
    have c : isI i1 (mx_i h 382 4) := by rw [C_ns C, e1]; exact nI_isI hz (by omega)
    refine tr_246_0 (agr_G (P := fun _ => False) (agr_mdl hmd) I.1) ⟨v01, fun v2 e2 h3 e3 => ?_⟩
    unfold V_201 at e2
    rw [em, v191_y n0 c, v191_y' (by decide) (by decide) c2] at e2
    have e2 : v2 = 0 := by simpa using e2
    subst e2
    subst e3
    subst e1
    have hb := Cs_b C hz
    obtain ⟨x, hx, ex⟩ := isI_nI (by omega) hb
    have vb : vp_in (33 + 6 * V_198 (mx_i h 382) (nI z) 4 + 2) 769 := by rw [w4 (by omega), ex]; exact vpU (by omega)
    rw [thr0, thr382, em]
    unfold mSto at hv
    refine ⟨fun q => absurd q (by decide), fun _ => ⟨vpS (by omega), ⟨fun q => ⟨?_, ?_⟩, fun q => ⟨fun q2 => ⟨⟨fun _ => ⟨vpS (by omega), trivial⟩, fun _ => trivial⟩, fun v16 e16 => ?_⟩, fun q2 => ⟨⟨fun _ => ⟨vpS (by omega), vb, trivial⟩, fun _ => ⟨fun _ => ⟨vpS (by omega), trivial⟩, fun _ => trivial⟩⟩, fun v10 e10 => ?_⟩⟩⟩⟩⟩
    · exact vpS2 (by omega) c2
    · rw [if_pos q] at hv; exact op_fin ok I (smr_mdl hmd) (bud_mdl hmd) ⟨rfl, hv⟩
    · rw [if_neg q, if_pos q2] at hv; exact op_fin ok I (smr_mdl hmd) (bud_mdl hmd) ⟨rfl, by rw [hv, e16]⟩
    · rw [if_neg q, if_neg q2] at hv; exact op_fin ok I (smr_mdl hmd) (bud_mdl hmd) ⟨rfl, by rw [hv, e10]⟩
  refine tr_140_0 I.1 I.2.1 ⟨fun c => ?_, fun c hm hmd => ?_⟩
  · rw [C_s C] at c
    have c' := c
    obtain ⟨z, hz, rfl⟩ := isI_nI (by omega) c'
    have vp : vp_in (nI z) 10 := vp_in_nI (by omega) (by decide)
    have cl : (nI z).toNatClampNeg = z := nI_clamp (by omega)
    rw [cl]
    refine ⟨fun q => ⟨vp, leaf _ z hz rfl ?_ ?_⟩, fun q0 => ⟨fun q => ⟨vp, leaf _ z hz rfl ?_ ?_⟩, fun q1 => ⟨fun q => ⟨vp, leaf _ z hz rfl ?_ ?_⟩, fun q2 => ⟨fun q => ⟨vp, leaf _ z hz rfl ?_ ?_⟩, fun q3 => ⟨fun q => ⟨vp, leaf _ z hz rfl ?_ ?_⟩, fun q4 => ⟨fun q => ⟨vp, ⟨fun e => ⟨?_, trivial⟩, fun _ => trivial⟩, leaf _ z hz rfl ?_ ?_⟩, fun q5 hm hmd => ?_⟩⟩⟩⟩⟩⟩
    · subst q; unfold isI; decide
    · subst q; show _ = V_198 (mx_i h 382) _ _; rw [w0 (by omega)]; exact Cs8 C hz
    · subst q; unfold isI; decide
    · subst q; show _ = V_198 (mx_i h 382) _ _; rw [w1 (by omega)]; exact Cs9 C hz
    · subst q; unfold isI; decide
    · subst q; show _ = V_198 (mx_i h 382) _ _; rw [w2 (by omega)]; exact Cs10 C hz
    · subst q; unfold isI; decide
    · subst q; show _ = V_198 (mx_i h 382) _ _; rw [w3 (by omega)]; exact Cs11 C hz
    · subst q; unfold isI; decide
    · subst q; show _ = if V_198 (mx_i h 382) _ _ = 0 then V_198 (mx_i h 382) _ _ else -1; rw [w3 (by omega), w4 (by omega)]; exact cm_bearer C hz
    · rw [Cs11 C hz] at e
      rw [Cs12 C hz e]
      exact vp_of_isI (n := np) (by omega) (by decide) h6 (Cs_b C hz)
    · subst q; unfold isI; decide
    · subst q
      show _ = if V_198 (mx_i h 382) (nI z) 3 = 0 then V_196 (mx_i h 382) (V_198 (mx_i h 382) (nI z) 4) 2 else if V_198 (mx_i h 382) (nI z) 3 = 1 then V_198 (mx_i h 382) (nI z) 5 else -1
      rw [w3 (by omega), w4 (by omega), w5 (by omega)]
      unfold V_108
      rw [cl, Cs11 C hz]
      by_cases e : mx_i h 382 (69 + 6 * z + 3) = 0
      · rw [if_pos e, if_pos e, Cs12 C hz e]
        obtain ⟨x, hx, ex⟩ := isI_nI (by omega) (Cs_b C hz)
        rw [ex, nI_clamp (by omega), u2 (by omega)]
        exact Cu4 C hx
      · rw [if_neg e, if_neg e]
        by_cases e1 : mx_i h 382 (69 + 6 * z + 3) = 1
        · rw [if_pos e1, if_pos e1, Cs12' C hz e1]
        · rw [if_neg e1, if_neg e1]
    · have em : mx_i hm 382 = mx_i h 382 := md_382 hmd 382
      have c2 : ¬ isI i2 6 := fun e => by
        obtain ⟨j, hj, rfl⟩ := isI_nI (n := 6) (by decide) e
        have : j = 0 ∨ j = 1 ∨ j = 2 ∨ j = 3 ∨ j = 4 ∨ j = 5 := by omega
        rcases this with rfl | rfl | rfl | rfl | rfl | rfl
        · exact q0 rfl
        · exact q1 rfl
        · exact q2 rfl
        · exact q3 rfl
        · exact q4 rfl
        · exact q5 rfl
      refine tr_246_0 (agr_G (P := fun _ => False) (agr_mdl hmd) (mxG_ex I.1)) ⟨v01, fun v2 e2 h3 e3 => ?_⟩
      unfold V_201 at e2
      rw [em, v191_y n0 (C_ns C ▸ c), v191_n' (by decide) (by decide) c2] at e2
      have e2 : v2 = 2 := by simpa using e2
      subst e2
      subst e3
      rw [thr0]
      exact ⟨fun _ => op_fin ok I (smr_tr smr_ex (smr_mdl hmd)) (bud_ex hmd) ⟨rfl, by decide⟩, fun q => absurd (by decide) q⟩
  · rw [C_s C, ← C_ns C] at c
    have em : mx_i hm 382 = mx_i h 382 := md_382 hmd 382
    refine tr_246_0 (agr_G (P := fun _ => False) (agr_mdl hmd) (mxG_ex I.1)) ⟨v01, fun v2 e2 h3 e3 => ?_⟩
    unfold V_201 at e2
    rw [em, v191_n n0 c] at e2
    have e2 : v2 = 1 := by simpa using e2
    subst e2
    subst e3
    rw [thr0]
    exact ⟨fun _ => op_fin ok I (smr_tr smr_ex (smr_mdl hmd)) (bud_ex hmd) ⟨rfl, by decide⟩, fun q => absurd (by decide) q⟩
