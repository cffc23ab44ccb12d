/-! CLASS AND REFERENCE agree on what is asked of a coupled valley -/
section
variable {v : Nat → Nat → Int32} {h : mxH} {a : Nat} {r : Nat → Int32} {np ns nl : Nat}
theorem nI0 {n : Nat} (h : n < 2 ^ 31) : 0 ≤ nI n := nI_pos' h
theorem C_np (C : CpN v r np ns nl) : r 3 = nI np := C.1.2.2.2.1
theorem C_ns (C : CpN v r np ns nl) : r 4 = nI ns := C.1.2.2.2.2.1
theorem C_nl (C : CpN v r np ns nl) : r 7 = nI nl := C.1.2.2.2.2.2.1
theorem C_p (C : CpN (vw h a) r np ns nl) : mx_i h (a + 1) 0 = nI np := C.1.2.2.2.2.2.2.1
theorem C_s (C : CpN (vw h a) r np ns nl) : mx_i h (a + 7) 0 = nI ns := C.1.2.2.2.2.2.2.2.1
theorem C_l (C : CpN (vw h a) r np ns nl) : mx_i h (a + 13) 0 = nI nl := C.1.2.2.2.2.2.2.2.2
theorem C_np6 (C : CpN v r np ns nl) : np ≤ 6 := C.1.1
theorem C_ns10 (C : CpN v r np ns nl) : ns ≤ 10 := C.1.2.1
theorem C_nl60 (C : CpN v r np ns nl) : nl ≤ 60 := C.1.2.2.1
theorem C_cs (C : CpN (vw h a) r np ns nl) : cB (mx_i h (a + 7) 0) 10 := ⟨ns, C_ns10 C, C_s C⟩
theorem C_cp (C : CpN (vw h a) r np ns nl) : cB (mx_i h (a + 1) 0) 6 := ⟨np, C_np6 C, C_p C⟩
theorem C_rs (C : CpN v r np ns nl) : cB (r 4) 10 := ⟨ns, C_ns10 C, C_ns C⟩
theorem C_rp (C : CpN v r np ns nl) : cB (r 3) 6 := ⟨np, C_np6 C, C_np C⟩
end
section
variable {r : Nat → Int32} {ns np : Nat}
theorem w0 {z : Nat} (hz : z < 100) : V_198 r (nI z) 0 = r (69 + 6 * z + 0) := v198 hz 0 (by omega)
theorem w1 {z : Nat} (hz : z < 100) : V_198 r (nI z) 1 = r (69 + 6 * z + 1) := v198 hz 1 (by omega)
theorem w2 {z : Nat} (hz : z < 100) : V_198 r (nI z) 2 = r (69 + 6 * z + 2) := v198 hz 2 (by omega)
theorem w3 {z : Nat} (hz : z < 100) : V_198 r (nI z) 3 = r (69 + 6 * z + 3) := v198 hz 3 (by omega)
theorem w4 {z : Nat} (hz : z < 100) : V_198 r (nI z) 4 = r (69 + 6 * z + 4) := v198 hz 4 (by omega)
theorem w5 {z : Nat} (hz : z < 100) : V_198 r (nI z) 5 = r (69 + 6 * z + 5) := v198 hz 5 (by omega)
theorem u0 {z : Nat} (hz : z < 100) : V_196 r (nI z) 0 = r (33 + 6 * z + 0) := v196 hz 0 (by omega)
theorem u1 {z : Nat} (hz : z < 100) : V_196 r (nI z) 1 = r (33 + 6 * z + 1) := v196 hz 1 (by omega)
theorem u2 {z : Nat} (hz : z < 100) : V_196 r (nI z) 2 = r (33 + 6 * z + 2) := v196 hz 2 (by omega)
theorem u3 {z : Nat} (hz : z < 100) : V_196 r (nI z) 3 = r (33 + 6 * z + 3) := v196 hz 3 (by omega)
theorem u4 {z : Nat} (hz : z < 100) : V_196 r (nI z) 4 = r (33 + 6 * z + 4) := v196 hz 4 (by omega)
theorem u5 {z : Nat} (hz : z < 100) : V_196 r (nI z) 5 = r (33 + 6 * z + 5) := v196 hz 5 (by omega)
theorem st_lt2 {x : Int32} (h : isR x 0 2) : (x < 2) = ¬ (x = 2) := by
  have h1 := h.1
  have h2 := h.2
  apply propext
  constructor
  · intro a b; subst b; exact absurd a (by decide)
  · intro a; grind
theorem md_243 (e : r 4 = nI ns) (hn : ns ≤ 10) (x : Int32) (k : Nat) (hk : k < 6) : V_243 r x (nI k) = orS ns (fun z => decide (r (69 + 6 * z + 3) < 2 ∧ r (69 + 6 * z + k) = x)) := by
  unfold V_243
  rw [e, nI_clamp (by omega)]
  refine orS_of (fun z hz s => ?_)
  unfold F_243_4
  rw [w3 (by omega), v198 (by omega) k (by omega)]
  by_cases h0 : r (69 + 6 * z + 3) < 2 <;> by_cases h1 : r (69 + 6 * z + k) = x <;> simp [h0, h1, or_0]
theorem md_w243 (e : r 4 = nI ns) (hn : ns ≤ 10) (x : Int32) (k : Nat) (hk : k < 6) : V_204 r (V_243 r x (nI k)) = smS ns (fun z => if r (69 + 6 * z + 3) < 2 ∧ r (69 + 6 * z + k) = x then r (69 + 6 * z + 2) else 0) := by
  rw [md_243 e hn x k hk, md_204 e hn]
  refine smS_congr (fun z hz => ?_)
  rw [bt_orS (by omega) _ (by omega)]
  simp [hz]
theorem md_289 (e : r 4 = nI ns) (hn : ns ≤ 10) : V_289 r = smS ns (fun z => if r (69 + 6 * z + 3) < 2 then r (69 + 6 * z + 2) else 0) := by
  unfold V_289
  rw [e, nI_clamp (by omega)]
  refine smS_of (fun z hz s => ?_)
  unfold F_289_4
  rw [w3 (by omega), w2 (by omega)]
theorem md_303 (e : r 4 = nI ns) (hn : ns ≤ 10) (x : Int32) : V_303 r x = orS ns (fun z => decide (r (69 + 6 * z + 3) = x)) := by
  unfold V_303
  rw [e, nI_clamp (by omega)]
  refine orS_of (fun z hz s => ?_)
  unfold F_303_4
  rw [w3 (by omega)]
  by_cases h0 : r (69 + 6 * z + 3) = x <;> simp [h0, or_0]
theorem md_248 (e : r 4 = nI ns) (hn : ns ≤ 10) (x : Int32) : V_248 r x = orS ns (fun z => decide (r (69 + 6 * z + 3) = 1 ∧ r (69 + 6 * z + 5) = x)) := by
  unfold V_248
  rw [e, nI_clamp (by omega)]
  refine orS_of (fun z hz s => ?_)
  unfold F_248_4
  rw [w3 (by omega), w5 (by omega)]
  by_cases h0 : r (69 + 6 * z + 3) = 1 <;> by_cases h1 : r (69 + 6 * z + 5) = x <;> simp [h0, h1, or_0]
theorem md_247 (e : r 3 = nI np) (hn : np ≤ 6) (x : Int32) : V_247 r x = orS np (fun z => decide (r (33 + 6 * z + 2) = x)) := by
  unfold V_247
  rw [e, nI_clamp (by omega)]
  refine orS_of (fun z hz s => ?_)
  unfold F_247_4
  rw [u2 (by omega)]
  by_cases h0 : r (33 + 6 * z + 2) = x <;> simp [h0, or_0]
theorem md_292 (e : r 3 = nI np) (hn : np ≤ 6) : V_292 r = orS np (fun z => decide (r (33 + 6 * z + 5) = 1)) := by
  unfold V_292
  rw [e, nI_clamp (by omega)]
  refine orS_of (fun z hz s => ?_)
  unfold F_292_4
  rw [u5 (by omega)]
  by_cases h0 : r (33 + 6 * z + 5) = 1 <;> simp [h0, or_0]
theorem md_293 (e : r 3 = nI np) (hn : np ≤ 6) : V_293 r = smS np (fun z => r (33 + 6 * z + 0)) := by
  unfold V_293
  rw [e, nI_clamp (by omega)]
  refine smS_of (fun z hz s => ?_)
  unfold F_293_4
  rw [u0 (by omega)]
end
section
variable {h : mxH} {a : Nat} {r : Nat → Int32} {np ns nl : Nat}
theorem Cs8 (C : CpN (vw h a) r np ns nl) {z : Nat} (hz : z < ns) : mx_i h (a + 8) z = r (69 + 6 * z + 0) := (C.2.2.2.2.1 z hz).1
theorem Cs9 (C : CpN (vw h a) r np ns nl) {z : Nat} (hz : z < ns) : mx_i h (a + 9) z = r (69 + 6 * z + 1) := (C.2.2.2.2.1 z hz).2.1
theorem Cs10 (C : CpN (vw h a) r np ns nl) {z : Nat} (hz : z < ns) : mx_i h (a + 10) z = r (69 + 6 * z + 2) := (C.2.2.2.2.1 z hz).2.2.1
theorem Cs11 (C : CpN (vw h a) r np ns nl) {z : Nat} (hz : z < ns) : mx_i h (a + 11) z = r (69 + 6 * z + 3) := (C.2.2.2.2.1 z hz).2.2.2.1
theorem Cs12 (C : CpN (vw h a) r np ns nl) {z : Nat} (hz : z < ns) (e : r (69 + 6 * z + 3) = 0) : mx_i h (a + 12) z = r (69 + 6 * z + 4) := (C.2.2.2.2.1 z hz).2.2.2.2.1 e
theorem Cs12' (C : CpN (vw h a) r np ns nl) {z : Nat} (hz : z < ns) (e : r (69 + 6 * z + 3) = 1) : mx_i h (a + 12) z = r (69 + 6 * z + 5) := (C.2.2.2.2.1 z hz).2.2.2.2.2.1 e
theorem Cs_d (C : CpN (vw h a) r np ns nl) {z : Nat} (hz : z < ns) : isI (r (69 + 6 * z + 0)) (nI np) := (C.2.2.2.2.1 z hz).2.2.2.2.2.2.1
theorem Cs_l (C : CpN (vw h a) r np ns nl) {z : Nat} (hz : z < ns) : isI (r (69 + 6 * z + 1)) (nI np) := (C.2.2.2.2.1 z hz).2.2.2.2.2.2.2.1
theorem Cs_w (C : CpN (vw h a) r np ns nl) {z : Nat} (hz : z < ns) : isR (r (69 + 6 * z + 2)) 1 40 := (C.2.2.2.2.1 z hz).2.2.2.2.2.2.2.2.1
theorem Cs_s (C : CpN (vw h a) r np ns nl) {z : Nat} (hz : z < ns) : isR (r (69 + 6 * z + 3)) 0 2 := (C.2.2.2.2.1 z hz).2.2.2.2.2.2.2.2.2.1
theorem Cs_b (C : CpN (vw h a) r np ns nl) {z : Nat} (hz : z < ns) : isI (r (69 + 6 * z + 4)) (nI np) := (C.2.2.2.2.1 z hz).2.2.2.2.2.2.2.2.2.2.1
theorem Cs_a (C : CpN (vw h a) r np ns nl) {z : Nat} (hz : z < ns) (e : r (69 + 6 * z + 3) = 1) : isR (r (69 + 6 * z + 5)) 0 11 := (C.2.2.2.2.1 z hz).2.2.2.2.2.2.2.2.2.2.2 e
theorem Cu2 (C : CpN (vw h a) r np ns nl) {x : Nat} (hx : x < np) : mx_i h (a + 2) x = r (33 + 6 * x + 0) := (C.2.2.2.1.2 x hx).1
theorem Cu3 (C : CpN (vw h a) r np ns nl) {x : Nat} (hx : x < np) : mx_i h (a + 3) x = r (33 + 6 * x + 1) := (C.2.2.2.1.2 x hx).2.1
theorem Cu4 (C : CpN (vw h a) r np ns nl) {x : Nat} (hx : x < np) : mx_i h (a + 4) x = r (33 + 6 * x + 2) := (C.2.2.2.1.2 x hx).2.2.1
theorem Cu5 (C : CpN (vw h a) r np ns nl) {x : Nat} (hx : x < np) : mx_i h (a + 5) x = r (33 + 6 * x + 3) := (C.2.2.2.1.2 x hx).2.2.2.1
theorem Cu6 (C : CpN (vw h a) r np ns nl) {x : Nat} (hx : x < np) : mx_i h (a + 6) x = r (33 + 6 * x + 4) := (C.2.2.2.1.2 x hx).2.2.2.2.1
theorem Cu_h (C : CpN (vw h a) r np ns nl) {x : Nat} (hx : x < np) : r (33 + 6 * x + 5) = (mx_i h (a + 1) 6 >>> (nI x &&& 31)) &&& 1 := (C.2.2.2.1.2 x hx).2.2.2.2.2.1
theorem Cu_p (C : CpN (vw h a) r np ns nl) {x : Nat} (hx : x < np) : isR (r (33 + 6 * x + 0)) 0 9999 := (C.2.2.2.1.2 x hx).2.2.2.2.2.2.1
theorem Cu_b (C : CpN (vw h a) r np ns nl) {x : Nat} (hx : x < np) : isR (r (33 + 6 * x + 1)) 1 60 := (C.2.2.2.1.2 x hx).2.2.2.2.2.2.2.1
theorem Cu_l (C : CpN (vw h a) r np ns nl) {x : Nat} (hx : x < np) : isR (r (33 + 6 * x + 2)) 0 11 := (C.2.2.2.1.2 x hx).2.2.2.2.2.2.2.2.1
theorem Cu_g (C : CpN (vw h a) r np ns nl) {x : Nat} (hx : x < np) : isR (r (33 + 6 * x + 3)) 0 11 := (C.2.2.2.1.2 x hx).2.2.2.2.2.2.2.2.2.1
theorem Cu_t (C : CpN (vw h a) r np ns nl) {x : Nat} (hx : x < np) : isR (r (33 + 6 * x + 4)) 0 99 := (C.2.2.2.1.2 x hx).2.2.2.2.2.2.2.2.2.2
theorem cm_bearer (C : CpN (vw h a) r np ns nl) {z : Nat} (hz : z < ns) : V_70 h a (nI z) = if r (69 + 6 * z + 3) = 0 then r (69 + 6 * z + 4) else -1 := by
  have hn := C_ns10 C
  unfold V_70
  rw [nI_clamp (by omega), Cs11 C hz]
  by_cases e : r (69 + 6 * z + 3) = 0
  · rw [if_pos e, if_pos e, Cs12 C hz e]
  · rw [if_neg e, if_neg e]
theorem cm_worn (C : CpN (vw h a) r np ns nl) {x : Int32} (hx : ¬ x = -1) : V_71 h a x = V_203 r x := by
  have hn := C_ns10 C
  rw [md_203 (C_ns C) hn]
  unfold V_71
  rw [C_s C, nI_clamp (by omega)]
  refine orS_of (fun z hz s => ?_)
  unfold F_71_4
  rw [cm_bearer C hz]
  by_cases e : r (69 + 6 * z + 3) = 0
  · simp [e]
  · have : ¬ (-1 : Int32) = x := fun q => hx q.symm
    simp [e, this]
theorem cm_wornFor (C : CpN (vw h a) r np ns nl) {x : Int32} (hx : ¬ x = -1) : V_72 h a x = V_203 r x &&& (V_243 r x 0 ^^^ (-1)) := by
  have hn := C_ns10 C
  have e1 : V_72 h a x = orS ns (fun z => decide (r (69 + 6 * z + 3) = 0 ∧ r (69 + 6 * z + 4) = x ∧ ¬ r (69 + 6 * z + 0) = x)) := by
    unfold V_72
    rw [C_s C, nI_clamp (by omega)]
    refine orS_of (fun z hz s => ?_)
    unfold F_72_4
    rw [cm_bearer C hz, nI_clamp (by omega), Cs8 C hz]
    have hq : ¬ (-1 : Int32) = x := fun q => hx q.symm
    by_cases e : r (69 + 6 * z + 3) = 0 <;> by_cases e2 : r (69 + 6 * z + 4) = x <;> by_cases e3 : r (69 + 6 * z + 0) = x <;> simp_all
  rw [e1, md_203 (C_ns C) hn, show V_243 r x 0 = _ from md_243 (C_ns C) hn x 0 (by omega)]
  apply b_ext
  intro i hi
  rw [b_and, b_xor, b_m1 i hi, bt_orS (by omega) _ hi, bt_orS (by omega) _ hi, bt_orS (by omega) _ hi]
  by_cases hz : i < ns
  · have := st_lt2 (Cs_s C hz)
    have h02 : (r (69 + 6 * i + 3) = 0) → r (69 + 6 * i + 3) < 2 := fun e => by rw [e]; decide
    by_cases e : r (69 + 6 * i + 3) = 0
    · have h2 := h02 e
      by_cases e2 : r (69 + 6 * i + 4) = x <;> by_cases e3 : r (69 + 6 * i + 0) = x <;> simp_all
    · simp [hz, e]
  · simp [hz]
theorem cm_owed (C : CpN (vw h a) r np ns nl) (x : Int32) : V_73 h a x = V_243 r x 0 := by
  have hn := C_ns10 C
  rw [show V_243 r x 0 = _ from md_243 (C_ns C) hn x 0 (by omega)]
  unfold V_73
  rw [C_s C, nI_clamp (by omega)]
  refine orS_of (fun z hz s => ?_)
  unfold F_73_4
  rw [nI_clamp (by omega), Cs8 C hz, Cs11 C hz]
  have := st_lt2 (Cs_s C hz)
  by_cases e : r (69 + 6 * z + 3) = 2 <;> by_cases e3 : r (69 + 6 * z + 0) = x <;> simp_all
theorem cm_laid (C : CpN (vw h a) r np ns nl) (x : Int32) : V_74 h a x = V_248 r x := by
  have hn := C_ns10 C
  rw [md_248 (C_ns C) hn]
  unfold V_74
  rw [C_s C, nI_clamp (by omega)]
  refine orS_of (fun z hz s => ?_)
  unfold F_74_4
  rw [nI_clamp (by omega), Cs11 C hz]
  by_cases e : r (69 + 6 * z + 3) = 1
  · rw [Cs12' C hz e]; simp [e]
  · simp [e]
theorem cm_state (C : CpN (vw h a) r np ns nl) (x : Int32) : V_75 h a x = V_303 r x := by
  have hn := C_ns10 C
  rw [md_303 (C_ns C) hn]
  unfold V_75
  rw [C_s C, nI_clamp (by omega)]
  refine orS_of (fun z hz s => ?_)
  unfold F_75_4
  rw [nI_clamp (by omega), Cs11 C hz]
  simp
theorem cm_owedBy (C : CpN (vw h a) r np ns nl) (x : Int32) : V_78 h a x = V_204 r (V_243 r x 0) := by
  unfold V_78
  rw [cm_weightOf C, cm_owed C]
theorem cm_dueTo (C : CpN (vw h a) r np ns nl) (x : Int32) : V_79 h a x = V_204 r (V_243 r x 1) := by
  have hn := C_ns10 C
  rw [show (1 : Int32) = nI 1 from rfl, md_w243 (C_ns C) hn x 1 (by omega)]
  unfold V_79
  rw [C_s C, nI_clamp (by omega)]
  refine smS_of (fun z hz s => ?_)
  unfold F_79_4
  rw [nI_clamp (by omega), Cs9 C hz, Cs11 C hz, Cs10 C hz]
  have := st_lt2 (Cs_s C hz)
  by_cases e : r (69 + 6 * z + 3) = 2 <;> by_cases e3 : r (69 + 6 * z + 1) = x <;> simp_all
theorem cm_unpaid (C : CpN (vw h a) r np ns nl) : V_80 h a = V_289 r := by
  have hn := C_ns10 C
  unfold V_80
  rw [cm_weightOf C, cm_state C, cm_state C, md_303 (C_ns C) hn, md_303 (C_ns C) hn, md_204 (C_ns C) hn, md_289 (C_ns C) hn]
  refine smS_congr (fun z hz => ?_)
  rw [b_or, bt_orS (by omega) _ (by omega), bt_orS (by omega) _ (by omega)]
  have h1 := (Cs_s C hz).1
  have h2 := (Cs_s C hz).2
  have h3 : (r (69 + 6 * z + 3) < 2) ↔ (r (69 + 6 * z + 3) = 0 ∨ r (69 + 6 * z + 3) = 1) := by constructor <;> intro q <;> grind
  simp [hz, h3]
theorem cm_bitsAt (C : CpN (vw h a) r np ns nl) (x : Int32) : V_48 h a x = V_247 r x := by
  have hn := C_np6 C
  rw [md_247 (C_np C) hn]
  unfold V_48
  rw [C_p C, nI_clamp (by omega)]
  refine orS_of (fun z hz s => ?_)
  unfold F_48_4
  rw [nI_clamp (by omega), Cu4 C hz]
  simp
theorem cm_purses (C : CpN (vw h a) r np ns nl) : V_52 h a = V_293 r := by
  have hn := C_np6 C
  rw [md_293 (C_np C) hn]
  unfold V_52
  rw [C_p C, nI_clamp (by omega)]
  refine smS_of (fun z hz s => ?_)
  unfold F_52_4
  rw [nI_clamp (by omega), Cu2 C hz]
theorem cm_isHurt (C : CpN (vw h a) r np ns nl) {x : Nat} (hx : x < np) : V_49 h a (nI x) = r (33 + 6 * x + 5) := by
  have hn := C_np6 C
  unfold V_49
  rw [Cu_h C hx, tbv _ (by omega)]
  cases bt (mx_i h (a + 1) 6) x <;> simp
theorem bt_nI {B i : Nat} (hi : i < 32) : bt (nI B) i = B.testBit i := by
  unfold bt nI
  show (BitVec.ofNat 32 B).getLsbD i = _
  rw [BitVec.getLsbD_ofNat]
  simp [hi]
theorem cm_hurt (C : CpN (vw h a) r np ns nl) : mx_i h (a + 1) 6 = V_292 r := by
  have hn := C_np6 C
  obtain ⟨B, hB, e⟩ := C.2.2.2.1.1
  have e : mx_i h (a + 1) 6 = nI B := e
  rw [md_292 (C_np C) hn]
  apply b_ext
  intro i hi
  rw [bt_orS (by omega) _ hi]
  by_cases hz : i < np
  · rw [Cu_h C hz, tbv _ (by omega)]
    cases bt (mx_i h (a + 1) 6) i <;> simp [hz]
  · rw [e, bt_nI hi, Nat.testBit_lt_two_pow (Nat.lt_of_lt_of_le hB (Nat.pow_le_pow_right (by decide) (by omega)))]
    simp [hz]
theorem cm_bowed (C : CpN (vw h a) r np ns nl) {x : Nat} (hx : x < np) : V_106 h a (nI x) = V_206 r (nI x) := by
  have hn := C_np6 C
  unfold V_106 V_206
  rw [cm_isHurt C hx, nI_clamp (by omega), Cu6 C hx, Cu3 C hx, cm_load C, u1 (by omega), u4 (by omega), u5 (by omega)]
  have h01 : r (33 + 6 * x + 5) = 0 ∨ r (33 + 6 * x + 5) = 1 := by
    rw [Cu_h C hx, tbv _ (by omega)]
    cases bt (mx_i h (a + 1) 6) x <;> simp
  rcases h01 with e | e <;> by_cases e1 : r (33 + 6 * x + 4) = 99 <;> by_cases e2 : r (33 + 6 * x + 1) < V_205 r (nI x) <;> simp [e, e1, e2]
theorem cm_bowed01 {x : Int32} : V_206 r x = 0 ∨ V_206 r x = 1 := by
  unfold V_206
  repeat' split
  all_goals first | exact .inl rfl | exact .inr rfl
theorem cm_porch (C : CpN (vw h a) r np ns nl) {p : Nat} (hp : p < 12) : V_105 h a (nI p) = r (21 + p) := by
  have e : r (21 + p) = (mx_i h a 4 >>> (nI p &&& 31)) &&& 1 := (C.2.2.1 p hp).2.2
  unfold V_105
  rw [e, tbv _ (by omega)]
  cases bt (mx_i h a 4) p <;> simp
theorem C_slope (C : CpN (vw h a) r np ns nl) {p : Nat} (hp : p < 12) : mx_i h (a + 15) p = r (9 + p) := (C.2.2.1 p hp).1
theorem C_texts (C : CpN (vw h a) r np ns nl) : mx_i h a 8 = r 0 := C.2.1.1
theorem C_hour (C : CpN (vw h a) r np ns nl) : mx_i h a 6 = r 5 := C.2.1.2.1
theorem C_limit (C : CpN (vw h a) r np ns nl) : mx_i h a 5 = r 6 := C.2.1.2.2.1
theorem C_seed (C : CpN (vw h a) r np ns nl) : mx_i h a 7 = r 8 := C.2.1.2.2.2.1
end
