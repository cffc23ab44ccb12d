/-! ACTS 6: purses; pay -/
/-- purses, when one gives to another -/
def mv (f : Nat → Int32) (x l : Nat) (w : Int32) (j : Nat) : Int32 := if j = l then (if (if l = x then f x - w else f l) + w < 9999 then (if l = x then f x - w else f l) + w else 9999) else if j = x then f x - w else f j
theorem w47 {h : mxH} {a x l : Nat} {w : Int32} (hx : x < 6) (hl : l < 6) : mxU (fun b => b = a + 2) h (W_47 h a (nI x) (nI l) w) ∧ ∀ j, mx_i (W_47 h a (nI x) (nI l) w) (a + 2) j = mv (mx_i h (a + 2)) x l w j := by
  unfold W_47 W_46
  rw [nI_clamp (by omega), nI_clamp (by omega)]
  refine ⟨mxU_tr (mxU_wi rfl) (mxU_wi rfl), fun j => ?_⟩
  unfold mv
  by_cases e : j = l
  · subst e
    rw [wi_at rfl rfl, if_pos rfl]
    by_cases e2 : j = x
    · subst e2; rw [wi_at rfl rfl, if_pos rfl]
    · rw [wi_nj e2, if_neg e2]
  · rw [wi_nj e, if_neg e]
    by_cases e2 : j = x
    · subst e2; rw [wi_at rfl rfl, if_pos rfl]
    · rw [wi_nj e2, if_neg e2]
theorem v192_9999 {r : Nat → Int32} {x : Int32} : V_192 r 9999 x = if x < 9999 then x else 9999 := by
  unfold V_192
  by_cases c : x < 9999
  · rw [if_pos c, if_neg (fun q => Int32.lt_irrefl (Int32.lt_trans c q))]
  · rw [if_neg c]
    by_cases c2 : (9999 : Int32) < x
    · rw [if_pos c2]
    · rw [if_neg c2]; grind
theorem w252 {h : mxH} {x l : Nat} {w : Int32} (hx : x < 6) (hl : l < 6) : mxU (fun b => b = 382) h (W_252 h (nI x) (nI l) w) ∧ (∀ y, y < 6 → mx_i (W_252 h (nI x) (nI l) w) 382 (33 + 6 * y + 0) = mv (fun y => mx_i h 382 (33 + 6 * y + 0)) x l w y) ∧ ∀ k, (∀ y, y < 6 → k ≠ 33 + 6 * y + 0) → mx_i (W_252 h (nI x) (nI l) w) 382 k = mx_i h 382 k := by
  unfold W_252 W_197
  rw [v192_9999, u0 (by omega), show (0 : Int32) = nI 0 from rfl, ixU, ixU, nI_clamp (by omega), nI_clamp (by omega)]
  have e0 : ∀ r : Nat → Int32, V_196 r (nI l) (nI 0) = r (33 + 6 * l + 0) := fun r => u0 (by omega)
  rw [e0]
  refine ⟨mxU_tr (mxU_wi rfl) (mxU_wi rfl), fun y hy => ?_, fun k hk => ?_⟩
  · unfold mv
    by_cases e : y = l
    · subst e
      rw [wi_at rfl rfl, if_pos rfl]
      by_cases e2 : y = x
      · subst e2; rw [wi_at rfl rfl, if_pos rfl]
      · rw [wi_nj (by omega), if_neg e2]
    · rw [wi_nj (by omega), if_neg e]
      by_cases e2 : y = x
      · subst e2; rw [wi_at rfl rfl, if_pos rfl]
      · rw [wi_nj (by omega), if_neg e2]
  · rw [wi_nj (hk l hl), wi_nj (hk x hx)]
theorem mv_R {f : Nat → Int32} {x l : Nat} {w : Int32} {n : Nat} (hf : ∀ y, y < n → isR (f y) 0 9999) (hx : x < n) (hl : l < n) (hw : isR w 1 40) (hp : ¬ f x < w) : ∀ y, y < n → isR (mv f x l w y) 0 9999 := by
  intro y hy
  have f1 := hf x hx
  have f2 := hf l hl
  have f3 := hf y hy
  obtain ⟨w1, w2⟩ := hw
  unfold isR at f1 f2 f3
  have g : isR (f x - w) 0 9999 := by unfold isR; constructor <;> grind
  have g2 : isR (if l = x then f x - w else f l) 0 9999 := by
    split
    · exact g
    · exact f2
  unfold mv
  split
  · obtain ⟨g3, g4⟩ := g2
    generalize (if l = x then f x - w else f l) = q at g3 g4 ⊢
    unfold isR
    split <;> constructor <;> grind
  · split
    · exact g
    · exact f3
theorem CpN_pu {v v' : Nat → Nat → Int32} {r r' : Nat → Int32} {np ns nl : Nat} (C : CpN v r np ns nl) (hv : ∀ k j, inV k j → k ≠ 2 → v' k j = v k j) (hr : ∀ k, k < 369 → k ≠ 1 → k ≠ 2 → (∀ y, y < 6 → k ≠ 33 + 6 * y + 0) → r' k = r k) (hp : ∀ y, y < np → v' 2 y = r' (33 + 6 * y + 0) ∧ isR (r' (33 + 6 * y + 0)) 0 9999) : CpN v' r' np ns nl := by
  have hn := C.1.2.1
  have h6 := C.1.1
  have hl := C.1.2.2.1
  refine ⟨Cp0_c (hv 1 0 (by unfold inV; omega) (by omega)) (hv 7 0 (by unfold inV; omega) (by omega)) (hv 13 0 (by unfold inV; omega) (by omega)) (hr 3 (by omega) (by omega) (by omega) (by omega)) (hr 4 (by omega) (by omega) (by omega) (by omega)) (hr 7 (by omega) (by omega) (by omega) (by omega)) C.1, Cp1_c (hv 0 5 (by unfold inV; omega) (by omega)) (hv 0 6 (by unfold inV; omega) (by omega)) (hv 0 7 (by unfold inV; omega) (by omega)) (hv 0 8 (by unfold inV; omega) (by omega)) (hr 0 (by omega) (by omega) (by omega) (by omega)) (hr 5 (by omega) (by omega) (by omega) (by omega)) (hr 6 (by omega) (by omega) (by omega) (by omega)) (hr 8 (by omega) (by omega) (by omega) (by omega)) C.2.1, Cp2_c (hv 0 4 (by unfold inV; omega) (by omega)) (fun p hp => hv 15 p (by unfold inV; omega) (by omega)) (fun k k1 k2 => hr k (by omega) (by omega) (by omega) (by omega)) C.2.2.1, ⟨by rw [hv 1 6 (by unfold inV; omega) (by omega)]; exact C.2.2.2.1.1, fun y hy => ?_⟩, CpS_c hn (fun k z k1 k2 hz => hv k z (by unfold inV; omega) (by omega)) (fun k k1 k2 => hr k (by omega) (by omega) (by omega) (by omega)) C.2.2.2.2.1, CpL_c hl (fun j hj => hv 14 j (by unfold inV; omega) (by omega)) (fun k k1 k2 => hr k (by omega) (by omega) (by omega) (by omega)) C.2.2.2.2.2⟩
  obtain ⟨a1, a2, a3, a4, a5, a6, a7, a8, a9, a10, a11⟩ := C.2.2.2.1.2 y hy
  obtain ⟨p1, p2⟩ := hp y hy
  rw [hv 1 6 (by unfold inV; omega) (by omega), hv 3 y (by unfold inV; omega) (by omega), hv 4 y (by unfold inV; omega) (by omega), hv 5 y (by unfold inV; omega) (by omega), hv 6 y (by unfold inV; omega) (by omega), hr (33 + 6 * y + 1) (by omega) (by omega) (by omega) (by omega), hr (33 + 6 * y + 2) (by omega) (by omega) (by omega) (by omega), hr (33 + 6 * y + 3) (by omega) (by omega) (by omega) (by omega), hr (33 + 6 * y + 4) (by omega) (by omega) (by omega) (by omega), hr (33 + 6 * y + 5) (by omega) (by omega) (by omega) (by omega)]
  exact ⟨p1, a2, a3, a4, a5, a6, p2, a8, a9, a10, a11⟩
theorem mLog_hi {r r' : Nat → Int32} {x1 x2 x3 : Int32} {k : Nat} (h5 : r' 5 = r 5) (hr : ∀ k, 129 ≤ k → k < 369 → r' k = r k) (h1 : 129 ≤ k) (h2 : k < 369) : mLog r' x1 x2 x3 k = mLog r x1 x2 x3 k := by
  unfold mLog shf
  have k7 : ¬ k = 7 := by omega
  rw [if_neg k7, if_neg k7, h5]
  by_cases e2 : k = 132
  · rw [if_pos e2, if_pos e2]
  · rw [if_neg e2, if_neg e2]
    by_cases e1 : k = 131
    · rw [if_pos e1, if_pos e1]
    · rw [if_neg e1, if_neg e1]
      by_cases e0 : k = 130
      · rw [if_pos e0, if_pos e0]
      · rw [if_neg e0, if_neg e0]
        by_cases e9 : k = 129
        · rw [if_pos e9, if_pos e9]
        · rw [if_neg e9, if_neg e9, if_pos (by omega), if_pos (by omega), hr (k - 4) (by omega) (by omega)]
theorem mLog_77 {r r' : Nat → Int32} {x1 x2 x3 : Int32} (h7 : r' 7 = r 7) : mLog r' x1 x2 x3 7 = mLog r x1 x2 x3 7 := by
  unfold mLog V_192
  rw [if_pos rfl, if_pos rfl, h7]
theorem op_pay {LW : mxLW} (ok : LWok LW) (i1 : Int32) : Op LW 144 254 [.int i1] (fun k => if k = 2 then 1 else if k = 4 then 2 else 0) := by
  intro h vn vd vr vq np ns nl I
  have C := I.2.2.1
  have h6 := C_np6 C
  have h10 := C_ns10 C
  have hvn := S_vn I.2.1
  obtain ⟨rf, rc, ra⟩ := I_rem I
  have s0 : (0 : Int32) ≤ mx_i h 382 4 := C_ns C ▸ nI0 (by omega)
  refine tr_144_0 I.1 I.2.1 ⟨fun c => ?_, fun c hm hmd => ?_⟩
  · rw [C_s C] at c
    have y1 : V_201 (mx_i h 382) i1 = 1 := by unfold V_201; exact v191_y s0 (by rw [C_ns C]; exact c)
    obtain ⟨z, hz, rfl⟩ := isI_nI (by omega) c
    have cz : (nI z).toNatClampNeg = z := nI_clamp (by omega)
    obtain ⟨x, hx, ex⟩ := isI_nI (by omega) (Cs_d C hz)
    obtain ⟨l, hl, el⟩ := isI_nI (by omega) (Cs_l C hz)
    have go : ∀ (hm : mxH) (Q : mxO → mxH → Prop), mxG hm → mx_i hm 382 = mx_i h 382 → (∀ t h11, t = (if mx_i h 382 (69 + 6 * z + 3) = 2 then 2 else if mx_i h 382 (33 + 6 * x + 0) < mx_i h 382 (69 + 6 * z + 2) then 2 else 0 : Int32) → h11 = mx_wi hm 381 0 t → (0 < t → Q (.inl (some (.int 0))) h11) ∧ (¬ 0 < t → (cB (mx_i h11 381 6) 12 ∧ (∀ h17, rmM h11 h17 → (∀ h23, h23 = W_252 h17 (nI x) (nI l) (mx_i h 382 (69 + 6 * z + 2)) → (∀ h27, h27 = W_199 h23 (nI z) 3 2 → (∀ h31, h31 = mx_wrow h27 382 (mLog (mx_i h27 382) (nI z) 1 (mx_i h 382 (69 + 6 * z + 2))) → Q (.inl (some (.int (mx_i h31 382 (33 + 6 * x + 0))))) h31))))))) → mx_wp 500 254 0 (mx_fr 254 [.ref 381, .int (nI z)]) [] hm Q := by
      intro hm Q Gm em kk
      refine tr_254_0 Gm ⟨v01, fun v2 e2 h3 e3 => ?_⟩
      rw [em, y1, if_neg (by decide)] at e2
      subst e2
      subst e3
      rw [thr0, thr382, em, w0 (by omega), w2 (by omega), w3 (by omega), ex, u0 (by omega)]
      refine ⟨fun q => absurd q (by decide), fun _ => ⟨vpS (by omega), vpS (by omega), vpS (by omega), ⟨fun _ => trivial, fun _ => ⟨vpU (by omega), trivial⟩⟩, fun v10 e10 h11 e11 => ?_⟩⟩
      rw [wi_wi] at e11
      have t11 : mx_i h11 381 0 = v10 := by rw [e11, thr0]
      rw [t11]
      obtain ⟨k1, k2⟩ := kk v10 h11 e10 e11
      refine ⟨k1, fun q => ?_⟩
      obtain ⟨k3, k4⟩ := k2 q
      refine ⟨k3, fun h17 R17 => ⟨vpS (by omega), vpU (by omega), ?_⟩⟩
      have e17 : V_198 (mx_i h17 382) (nI z) 1 = nI l := by
        rw [R4_382 R17, e11, thr382, em, w1 (by omega), el]
      rw [e17]
      refine ⟨vpU (by omega), fun h23 e23 h27 e27 h31 e31 => ?_⟩
      have := k4 h17 R17 h23 e23 h27 e27 h31 e31
      rw [u0 (by omega)]
      exact this
    have late : (if mx_i h 382 (69 + 6 * z + 3) = 2 then 2 else if mx_i h 382 (33 + 6 * x + 0) < mx_i h 382 (69 + 6 * z + 2) then 2 else 0 : Int32) = 2 → ∀ hm, mdl (mx_ex h) hm → mx_wp 500 254 0 (mx_fr 254 [.ref 381, .int (nI z)]) [] hm (fun o2 h2 => ∃ b, o2 = .inl (some (.int b)) ∧ ansOk (fun k => if k = 2 then 1 else if k = 4 then 2 else 0) (.inr 4) b (mx_i h2 381 0) ∧ bud h h2 ∧ ∃ vn vd vr vq np ns nl, Inv LW h2 vn vd vr vq np ns nl) := by
      intro et hm hmd
      refine go hm _ (agr_G (P := fun _ => False) (agr_mdl hmd) (mxG_ex I.1)) (md_382 hmd 382) (fun v10 h11 e10 e11 => ?_)
      have : v10 = 2 := by rw [e10, et]
      subst this
      refine ⟨fun _ => ?_, fun q => absurd (by decide) q⟩
      subst e11
      exact op_fin ok I (smr_tr smr_ex (smr_mdl hmd)) (bud_ex hmd) ⟨rfl, by decide⟩
    have cx : (nI x).toNatClampNeg = x := nI_clamp (by omega)
    rw [cz, Cs11 C hz, Cs8 C hz, Cs10 C hz, ex, cx, Cu2 C hx]
    refine ⟨vp_in_nI (by omega) (by decide), fun q => late (by rw [if_pos q]), fun q => ⟨vp_in_nI (by omega) (by decide), fun q2 => late (by rw [if_neg q, if_pos q2]), fun q2 => ⟨rf, rc, fun h9 R1 => ⟨lg_pre ⟨nl, C_nl60 C, by rw [R1_vn R1 hvn (by omega)]; exact C_l C⟩, fun h14 e14 => ?_⟩⟩⟩⟩
    have C12 := C_rem I R1
    have CL := CpN_log (z := z) (act := 1) C12 (by omega) rfl
    have ew : mx_i h9 (vn + 10) z = mx_i h 382 (69 + 6 * z + 2) := Cs10 C12 hz
    rw [ew] at CL
    have o14 : ∀ k, k ≠ 13 → k ≠ 14 → mx_i h14 (vn + k) = mx_i h9 (vn + k) := fun k k1 k2 => by rw [e14, mxU_i w104_U (by omega)]
    have l14 : mx_i h14 (vn + 9) z = nI l := by rw [o14 9 (by omega) (by omega), Cs9 C12 hz, el]
    rw [l14]
    refine ⟨vp_in_nI (by omega) (by decide), fun h20 e20 h25 e25 hm hmd => ?_⟩
    obtain ⟨u20, m20⟩ := w47 (h := h14) (a := vn) (x := x) (l := l) (w := mx_i h 382 (69 + 6 * z + 2)) (by omega) (by omega)
    rw [← e20] at u20 m20
    have u2' : agr (fun b => vn ≤ b ∧ b < vn + 16) h9 hm := agr_tr (agr_mono (fun b hb => by omega) (agr_U (e14 ▸ w104_U (a := vn) (i1 := nI z) (i2 := 1)))) (agr_tr (agr_mono (fun b hb => by omega) (agr_U u20)) (agr_tr (agr_wi' e25 (by omega)) (agr_mdl hmd)))
    have b2' : bq h9 hm := bq_tr (bq_U (P := fun b => b = vn + 13 ∨ b = vn + 14) (e14 ▸ w104_U)) (bq_tr (bq_U u20) (bq_tr (bq_wi' e25) (bq_mdl hmd)))
    have em : mx_i hm 382 = mx_i h 382 := by rw [u2'.2.2 382 (by omega), R1_hi R1 (by omega)]
    refine go hm _ (agr_G u2' (mxU_G R1.1 I.1)) em (fun t h11 et e11 => ?_)
    have et : t = 0 := by rw [et, if_neg q, if_neg q2]
    subst et
    have t11 : mx_i h11 381 0 = 0 := by rw [e11, thr0]
    have f11 : ∀ j, j ≠ 0 → mx_i h11 381 j = mx_i hm 381 j := fun j hj => by rw [e11, wi_nj hj]
    refine ⟨fun q => absurd q (by decide), fun _ => ⟨?_, fun h17 R4 h23 e23 h27 e27 h31 e31 => ?_⟩⟩
    · rw [f11 6 (by decide), u2'.2.2 381 (by omega), R1_hi R1 (by omega)]; exact ra
    · have em9 : mx_i h17 382 = mx_i h 382 := by rw [R4_382 R4, e11, thr382, em]
      obtain ⟨u23, m23, o23⟩ := w252 (h := h17) (x := x) (l := l) (w := mx_i h 382 (69 + 6 * z + 2)) (by omega) (by omega)
      rw [← e23] at u23 m23 o23
      rw [em9] at m23 o23
      unfold W_199 at e27
      rw [show (3 : Int32) = nI 3 from rfl, ixS, nI_clamp (by omega)] at e27
      have r27 : ∀ k, k ≠ 69 + 6 * z + 3 → (∀ y, y < 6 → k ≠ 33 + 6 * y + 0) → mx_i h27 382 k = mx_i h 382 k := fun k k1 k2 => by rw [e27, wi_nj k1, o23 k k2]
      have s27 : mx_i h27 382 (69 + 6 * z + 3) = 2 := by rw [e27, wi_at rfl rfl]
      have p27 : ∀ y, y < 6 → mx_i h27 382 (33 + 6 * y + 0) = mv (fun y => mx_i h 382 (33 + 6 * y + 0)) x l (mx_i h 382 (69 + 6 * z + 2)) y := fun y hy => by rw [e27, wi_nj (by omega), m23 y hy]
      have r31 : mx_i h31 382 = mLog (mx_i h27 382) (nI z) 1 (mx_i h 382 (69 + 6 * z + 2)) := by rw [e31, wrow_at]
      have mvR := mv_R (n := np) (f := fun y => mx_i h 382 (33 + 6 * y + 0)) (fun y hy => Cu_p C hy) hx hl (Cs_w C hz) q2
      have lo31 : ∀ k, k < 129 → k ≠ 7 → mx_i h31 382 k = mx_i h27 382 k := fun k k1 k2 => by rw [r31, mLog_lo k2 (.inl k1)]
      have loL : ∀ k, k < 129 → k ≠ 7 → mLog (mx_i h 382) (nI z) 1 (mx_i h 382 (69 + 6 * z + 2)) k = mx_i h 382 k := fun k k1 k2 => mLog_lo k2 (.inl k1)
      have hi31 : ∀ k, k = 7 ∨ (129 ≤ k ∧ k < 369) → mx_i h31 382 k = mLog (mx_i h 382) (nI z) 1 (mx_i h 382 (69 + 6 * z + 2)) k := fun k hk => by
        rw [r31]
        rcases hk with rfl | hk
        · exact mLog_77 (r27 7 (by omega) (by omega))
        · exact mLog_hi (r27 5 (by omega) (by omega)) (fun k k1 k2 => r27 k (by omega) (by omega)) hk.1 hk.2
      -- purses first
      have CP : CpN (vw h20 vn) (fun k => if 33 ≤ k ∧ k < 69 ∧ (k - 33) % 6 = 0 then mx_i h31 382 k else mLog (mx_i h 382) (nI z) 1 (mx_i h 382 (69 + 6 * z + 2)) k) np ns (min (nl + 1) 60) := by
        refine CpN_pu CL (fun k j hk hk2 => ?_) (fun k k1 k2 k3 k4 => ?_) (fun y hy => ?_)
        · show mx_i h20 (vn + k) j = mx_i (W_104 h9 vn (nI z) 1) (vn + k) j
          rw [mxU_i u20 (by omega), e14]
        · rw [if_neg]
          intro q
          exact k4 ((k - 33) / 6) (by omega) (by omega)
        · show mx_i h20 (vn + 2) y = _ ∧ _
          have hyy : y < 6 := by omega
          have e2y : mx_i h14 (vn + 2) = mx_i h9 (vn + 2) := o14 2 (by omega) (by omega)
          have ec : (if 33 ≤ 33 + 6 * y + 0 ∧ 33 + 6 * y + 0 < 69 ∧ (33 + 6 * y + 0 - 33) % 6 = 0 then mx_i h31 382 (33 + 6 * y + 0) else mLog (mx_i h 382) (nI z) 1 (mx_i h 382 (69 + 6 * z + 2)) (33 + 6 * y + 0)) = mv (fun y => mx_i h 382 (33 + 6 * y + 0)) x l (mx_i h 382 (69 + 6 * z + 2)) y := by
            rw [if_pos (by omega), lo31 _ (by omega) (by omega), p27 y hyy]
          rw [ec]
          refine ⟨?_, mvR y hy⟩
          rw [m20 y, e2y]
          unfold mv
          simp only [Cu2 C12 hx, Cu2 C12 hl, Cu2 C12 hy]
      have CN : CpN (vw h31 vn) (mx_i h31 382) np ns (min (nl + 1) 60) := by
        refine C_hi (h := h) (hc := h25) (r := mx_i h31 382) ?_ (fun k hk => ?_) (fun _ _ _ _ => rfl)
        · have st : ∀ k, 69 ≤ k → k < 129 → k ≠ 69 + 6 * z + 3 → mx_i h31 382 k = mx_i h 382 k := fun k k1 k2 k3 => by rw [lo31 k (by omega) (by omega), r27 k k3 (by omega)]
          have s3 : mx_i h31 382 (69 + 6 * z + 3) = 2 := by rw [lo31 _ (by omega) (by omega)]; exact s27
          refine CpN_st (z := z) CP hz (fun k j hk hj => ?_) (fun k k1 k2 k3 k4 => ?_) ?_ ?_ ?_ ?_ ?_ ?_ ?_ ?_
          · show mx_i h25 (vn + k) j = mx_i h20 (vn + k) j
            rw [e25, wi_i, if_neg (by omega)]
          · by_cases kc : 33 ≤ k ∧ k < 69 ∧ (k - 33) % 6 = 0
            · rw [if_pos kc]
            · rw [if_neg kc]
              by_cases k7 : k = 7 ∨ (129 ≤ k ∧ k < 369)
              · exact hi31 k k7
              · rw [lo31 k (by omega) (by omega), loL k (by omega) (by omega), r27 k (by omega) (fun y hy e => kc (by omega))]
          · show mx_i h25 (vn + 10) z = _
            rw [st _ (by omega) (by omega) (by omega), e25, wi_ne (by omega), mxU_i u20 (by omega), o14 10 (by omega) (by omega)]; exact ew
          · rw [st _ (by omega) (by omega) (by omega)]; exact Cs_w C hz
          · show mx_i h25 (vn + 11) z = _
            rw [s3, e25, wi_at rfl rfl]
          · intro e; rw [s3] at e; exact absurd e (by decide)
          · intro e; rw [s3] at e; exact absurd e (by decide)
          · rw [s3]; unfold isR; decide
          · rw [st _ (by omega) (by omega) (by omega)]; exact Cs_b C hz
          · intro e; rw [s3] at e; exact absurd e (by decide)
        · rw [e31, wrow_ne (by omega), e27, wi_ne (by omega), mxU_i u23 (by omega), R4_lo R4 (by omega), e11, wi_ne (by omega), md_382 hmd]
      refine act_fin ok I R1 u2' b2' (agr_wi' e11 rfl) (bq_wi' e11) f11 t11 R4 (agr_tr (agr_U u23) (agr_tr (agr_wi' e27 rfl) (agr_wrow' e31 rfl))) (bq_tr (bq_U u23) (bq_tr (bq_wi' e27) (bq_wrow' e31))) (fun k hk => ?_) CN ?_
      · rw [r31, mLog_lo (by omega) (by omega), r27 k (by omega) (by omega), em9]
      · have : mx_i h31 (vn + 2) x = mx_i h31 382 (33 + 6 * x + 0) := Cu2 CN hx
        rw [← this, e31, wrow_ne (by omega), e27, wi_ne (by omega), mxU_i u23 (by omega), R4_lo R4 (by omega), e11, wi_ne (by omega), md_382 hmd]
  · rw [C_s C, ← C_ns C] at c
    have em : mx_i hm 382 = mx_i h 382 := md_382 hmd 382
    refine tr_254_0 (agr_G (P := fun _ => False) (agr_mdl hmd) (mxG_ex I.1)) ⟨v01, fun v2 e2 h3 e3 => ?_⟩
    have e2 : v2 = 1 := by
      rw [em] at e2
      unfold V_201 at e2
      rw [v191_n s0 c] at e2; simpa using e2
    subst e2
    subst e3
    rw [thr0]
    exact ⟨fun _ => op_fin ok I (smr_tr smr_ex (smr_mdl hmd)) (bud_ex hmd) ⟨rfl, by decide⟩, fun q => absurd (by decide) q⟩
