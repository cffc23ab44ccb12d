/-! ACTS 2: goal, rest -/
def bq (h h1 : mxH) : Prop := mx_x h1 = mx_x h ∧ mx_n h1 = mx_n h
theorem bq_rfl {h : mxH} : bq h h := ⟨rfl, rfl⟩
theorem bq_tr {h h1 h2 : mxH} (u : bq h h1) (w : bq h1 h2) : bq h h2 := ⟨w.1.trans u.1, w.2.trans u.2⟩
theorem bq_U {P : Nat → Prop} {h h1 : mxH} (u : mxU P h h1) : bq h h1 := ⟨u.2.1, u.2.2.1⟩
theorem bq_K {h h1 : mxH} (u : mxK h h1) : bq h h1 := ⟨u.2.1, u.2.2.1⟩
theorem bq_mdl {h hm : mxH} (u : mdl h hm) : bq h hm := ⟨u.2.1, u.2.2.1⟩
theorem bq_wi' {h h1 : mxH} {a k : Nat} {v : Int32} (e : h1 = mx_wi h a k v) : bq h h1 := e ▸ ⟨rfl, rfl⟩
theorem bud_bq {h h1 : mxH} (u : bq h h1) : bud h h1 := ⟨by rw [u.1]; omega, by rw [u.2]; omega⟩
theorem act_fin {LW : mxLW} (ok : LWok LW) {code : Nat → Int32} {h h1 hm h3 h4 h5 : mxH} {vn vd vr vq np ns nl np' ns' nl' : Nat} {b v : Int32} (I : Inv LW h vn vd vr vq np ns nl) (R1 : rmC vn h h1) (u2 : agr (fun b => vn ≤ b ∧ b < vn + 16) h1 hm) (b2 : bq h1 hm) (u3 : agr (fun b => b = 381) hm h3) (b3 : bq hm h3) (f3 : ∀ j, j ≠ 0 → mx_i h3 381 j = mx_i hm 381 j) (t3 : mx_i h3 381 0 = 0) (R4 : rmM h3 h4) (u5 : agr (fun b => b = 382) h4 h5) (b5 : bq h4 h5) (hr : ∀ k, k = 1 ∨ k = 2 ∨ (369 ≤ k ∧ k < 769) → mx_i h5 382 k = mx_i h4 382 k) (C : CpN (vw h5 vn) (mx_i h5 382) np' ns' nl') (hv : v = b) : ∃ b2, (.inl (some (.int b)) : mxO) = .inl (some (.int b2)) ∧ ansOk code (.inl (some (.int v))) b2 (mx_i h5 381 0) ∧ bud h h5 ∧ ∃ vn vd vr vq np ns nl, Inv LW h5 vn vd vr vq np ns nl := by
  refine ⟨b, rfl, ⟨?_, hv⟩, bud_bq (bq_tr (bq_U R1.1) (bq_tr b2 (bq_tr b3 (bq_tr (bq_U R4.1) b5)))), vn, vd, vr, vq, np', ns', nl', Inv_act ok I R1 u2 u3 f3 R4 u5 hr C⟩
  rw [u5.2.2 381 (by decide), R4.2.1 0 (by decide)]; exact t3
section
variable {h h1 hm h3 h4 : mxH} {vn : Nat}
theorem R1_vn (R1 : rmC vn h h1) (hv : vn = 119 ∨ vn = 135) {k : Nat} (hk : k < 16) : mx_i h1 (vn + k) = mx_i h (vn + k) := mxU_i R1.1 (by omega)
theorem R1_0 (R1 : rmC vn h h1) (hv : vn = 119 ∨ vn = 135) : mx_i h1 vn = mx_i h vn := R1_vn (k := 0) R1 hv (by omega)
theorem R1_hi (R1 : rmC vn h h1) {b : Nat} (hb : 381 ≤ b) : mx_i h1 b = mx_i h b := mxU_i R1.1 (by omega)
theorem R4_382 (R4 : rmM h3 h4) : mx_i h4 382 = mx_i h3 382 := mxU_i R4.1 (by decide)
theorem R4_lo (R4 : rmM h3 h4) {b : Nat} (hb : b < 381) : mx_i h4 b = mx_i h3 b := mxU_i R4.1 (by omega)
end
theorem S_vn {h : mxH} {vn vd vr vq : Nat} (S : mxS h vn vd vr vq) : vn = 119 ∨ vn = 135 := by have := S.2.2.2.2.1; omega
theorem isR_of_isI {x : Int32} (h : isI x 12) : isR x 0 11 := by
  obtain ⟨h1, h2⟩ := h
  unfold isR
  constructor <;> grind
theorem op_goal {LW : mxLW} (ok : LWok LW) (i1 i2 : Int32) : Op LW 149 259 [.int i1, .int i2] (fun k => if k = 2 then 1 else 0) := by
  intro h vn vd vr vq np ns nl I
  have C := I.2.2.1
  have h6 := C_np6 C
  have hvn := S_vn I.2.1
  obtain ⟨rf, rc, ra⟩ := I_rem I
  have n0 : (0 : Int32) ≤ mx_i h 382 3 := C_np C ▸ nI0 (by omega)
  -- refused
  have no : (¬ isI i1 (mx_i h 382 3) ∨ ¬ isI i2 12) → ∀ hm, mdl (mx_ex h) hm → mx_wp 500 259 0 (mx_fr 259 [.ref 381, .int i1, .int i2]) [] hm (fun o2 h2 => ∃ b, o2 = .inl (some (.int b)) ∧ ansOk (fun k => if k = 2 then 1 else 0) (.inr 2) b (mx_i h2 381 0) ∧ bud h h2 ∧ ∃ vn vd vr vq np ns nl, Inv LW h2 vn vd vr vq np ns nl) := by
    intro hc hm hmd
    have em : mx_i hm 382 = mx_i h 382 := md_382 hmd 382
    refine tr_259_0 (agr_G (P := fun _ => False) (agr_mdl hmd) (mxG_ex I.1)) ⟨v01, ⟨fun _ => trivial, fun _ => ⟨v01, trivial⟩⟩, fun v2 e2 h3 e3 => ?_⟩
    have e2 : v2 = 1 := by
      rw [em] at e2
      unfold V_200 V_202 at e2
      rcases hc with hc | hc
      · rw [v191_n n0 hc] at e2; simpa using e2
      · rw [v191_n' (x := i2) (by decide) (by decide) hc] at e2; simpa using e2
    subst e2
    subst e3
    rw [thr0]
    exact ⟨fun _ => op_fin ok I (smr_tr smr_ex (smr_mdl hmd)) (bud_ex hmd) ⟨rfl, by decide⟩, fun q => absurd (by decide) q⟩
  refine tr_149_0 I.1 I.2.1 ⟨fun c => ⟨fun c2 => ⟨rf, rc, fun h6' R1 => ⟨?_, fun h11 e11 hm hmd => ?_⟩⟩, fun c2 => no (.inr c2)⟩, fun c => no (.inl ?_)⟩
  · rw [C_p C] at c
    exact vp_of_isI (by omega) (by decide) h6 c
  · rw [C_p C] at c
    have c' : isI i1 (mx_i h 382 3) := by rw [C_np C]; exact c
    obtain ⟨x, hx, rfl⟩ := isI_nI (by omega) c
    rw [nI_clamp (by omega)] at e11 ⊢
    have u2 : agr (fun b => vn ≤ b ∧ b < vn + 16) h6' hm := agr_tr (agr_wi' e11 (by omega)) (agr_mdl hmd)
    have em : mx_i hm 382 = mx_i h 382 := by rw [u2.2.2 382 (by omega), R1_hi R1 (by omega)]
    refine tr_259_0 (agr_G u2 (mxU_G R1.1 I.1)) ⟨v01, ⟨fun _ => trivial, fun _ => ⟨v01, trivial⟩⟩, fun v2 e2 h3 e3 => ?_⟩
    have e2 : v2 = 0 := by
      rw [em] at e2
      unfold V_200 V_202 at e2
      rw [v191_y n0 c', v191_y' (x := i2) (by decide) (by decide) c2] at e2; simpa using e2
    subst e2
    have t3 : mx_i h3 381 0 = 0 := by rw [e3, thr0]
    have f3 : ∀ j, j ≠ 0 → mx_i h3 381 j = mx_i hm 381 j := fun j hj => by rw [e3, wi_nj hj]
    have a3 : mx_i h3 381 6 = mx_i h 381 6 := by rw [f3 6 (by decide), u2.2.2 381 (by omega), R1_hi R1 (by omega)]
    rw [t3]
    refine ⟨fun q => absurd q (by decide), fun _ => ⟨a3 ▸ ra, fun h9 R4 => ⟨vpU (by omega), fun h13 e13 => ?_⟩⟩⟩
    have em9 : mx_i h9 382 = mx_i h 382 := by rw [R4_382 R4, e3, thr382, em]
    unfold W_197 at e13
    rw [show (3 : Int32) = nI 3 from rfl, ixU, nI_clamp (by omega)] at e13
    have er : ∀ k, k ≠ 33 + 6 * x + 3 → mx_i h13 382 k = mx_i h 382 k := fun k hk => by rw [e13, wi_nj hk, em9]
    have er3 : mx_i h13 382 (33 + 6 * x + 3) = i2 := by rw [e13, wi_at rfl rfl]
    have ev : ∀ k, k < 16 → ∀ j, ¬ (k = 5 ∧ j = x) → vw h13 vn k j = vw h vn k j := fun k hk j hj => by
      show mx_i h13 (vn + k) j = mx_i h (vn + k) j
      rw [e13, wi_ne (by omega), R4_lo R4 (by omega), e3, wi_ne (by omega), md_382 hmd, e11, wi_i, if_neg (by omega), R1_vn R1 hvn hk]
    have ev5 : vw h13 vn 5 x = i2 := by
      show mx_i h13 (vn + 5) x = i2
      rw [e13, wi_ne (by omega), R4_lo R4 (by omega), e3, wi_ne (by omega), md_382 hmd, e11, wi_at rfl rfl]
    have CN : CpN (vw h13 vn) (mx_i h13 382) np ns nl := by
      refine ⟨Cp0_c (ev 1 (by omega) 0 (by omega)) (ev 7 (by omega) 0 (by omega)) (ev 13 (by omega) 0 (by omega)) (er 3 (by omega)) (er 4 (by omega)) (er 7 (by omega)) C.1, Cp1_c (ev 0 (by omega) 5 (by omega)) (ev 0 (by omega) 6 (by omega)) (ev 0 (by omega) 7 (by omega)) (ev 0 (by omega) 8 (by omega)) (er 0 (by omega)) (er 5 (by omega)) (er 6 (by omega)) (er 8 (by omega)) C.2.1, Cp2_c (ev 0 (by omega) 4 (by omega)) (fun p hp => ev 15 (by omega) p (by omega)) (fun k k1 k2 => er k (by omega)) C.2.2.1, ?_, CpS_c (C_ns10 C) (fun k z k1 k2 hz => ev k (by omega) z (by omega)) (fun k k1 k2 => er k (by omega)) C.2.2.2.2.1, CpL_c (C_nl60 C) (fun j hj => ev 14 (by omega) j (by omega)) (fun k k1 k2 => er k (by omega)) C.2.2.2.2.2⟩
      refine ⟨by rw [ev 1 (by omega) 6 (by omega)]; exact C.2.2.2.1.1, fun y hy => ?_⟩
      rw [ev 1 (by omega) 6 (by omega), ev 2 (by omega) y (by omega), ev 3 (by omega) y (by omega), ev 4 (by omega) y (by omega), ev 6 (by omega) y (by omega), er (33 + 6 * y + 0) (by omega), er (33 + 6 * y + 1) (by omega), er (33 + 6 * y + 2) (by omega), er (33 + 6 * y + 4) (by omega), er (33 + 6 * y + 5) (by omega)]
      obtain ⟨a1, a2, a3, a4, a5, a6, a7, a8, a9, a10, a11⟩ := C.2.2.2.1.2 y hy
      by_cases hyx : y = x
      · subst hyx
        rw [ev5, er3]
        exact ⟨a1, a2, a3, rfl, a5, a6, a7, a8, a9, isR_of_isI c2, a11⟩
      · rw [ev 5 (by omega) y (by omega), er (33 + 6 * y + 3) (by omega)]
        exact ⟨a1, a2, a3, a4, a5, a6, a7, a8, a9, a10, a11⟩
    refine act_fin ok I R1 u2 (bq_tr (bq_wi' e11) (bq_mdl hmd)) (agr_wi' e3 rfl) (bq_wi' e3) f3 t3 R4 (agr_wi' e13 rfl) (bq_wi' e13) (fun k hk => by rw [e13, wi_nj (by omega)]) CN ?_
    rw [R1_vn R1 hvn (by omega), Cu5 C hx, em9, u3 (by omega)]
  · rw [C_np C, ← C_p C]; exact c
