/-! THE COUPLING of a valley of the class with a row of the reference -/
def vw (h : mxH) (a : Nat) : Nat → Nat → Int32 := fun k j => mx_i h (a + k) j
def isR (x lo hi : Int32) : Prop := lo ≤ x ∧ x ≤ hi
def Cp0 (v : Nat → Nat → Int32) (r : Nat → Int32) (np ns nl : Nat) : Prop := np ≤ 6 ∧ ns ≤ 10 ∧ nl ≤ 60 ∧ r 3 = nI np ∧ r 4 = nI ns ∧ r 7 = nI nl ∧ v 1 0 = nI np ∧ v 7 0 = nI ns ∧ v 13 0 = nI nl
def Cp1 (v : Nat → Nat → Int32) (r : Nat → Int32) : Prop := v 0 8 = r 0 ∧ v 0 6 = r 5 ∧ v 0 5 = r 6 ∧ v 0 7 = r 8 ∧ isR (r 0) 0 12 ∧ isR (r 5) 0 9999 ∧ isR (r 6) 1 99
def Cp2 (v : Nat → Nat → Int32) (r : Nat → Int32) : Prop := ∀ p, p < 12 → v 15 p = r (9 + p) ∧ isR (r (9 + p)) 0 3 ∧ r (21 + p) = (v 0 4 >>> (nI p &&& 31)) &&& 1
def CpU (v : Nat → Nat → Int32) (r : Nat → Int32) (np : Nat) : Prop := (∃ B : Nat, B < 2 ^ np ∧ v 1 6 = nI B) ∧ ∀ x, x < np → v 2 x = r (33 + 6 * x + 0) ∧ v 3 x = r (33 + 6 * x + 1) ∧ v 4 x = r (33 + 6 * x + 2) ∧ v 5 x = r (33 + 6 * x + 3) ∧ v 6 x = r (33 + 6 * x + 4) ∧ r (33 + 6 * x + 5) = (v 1 6 >>> (nI x &&& 31)) &&& 1 ∧ isR (r (33 + 6 * x + 0)) 0 9999 ∧ isR (r (33 + 6 * x + 1)) 1 60 ∧ isR (r (33 + 6 * x + 2)) 0 11 ∧ isR (r (33 + 6 * x + 3)) 0 11 ∧ isR (r (33 + 6 * x + 4)) 0 99
def CpS (v : Nat → Nat → Int32) (r : Nat → Int32) (np ns : Nat) : Prop := ∀ z, z < ns → v 8 z = r (69 + 6 * z + 0) ∧ v 9 z = r (69 + 6 * z + 1) ∧ v 10 z = r (69 + 6 * z + 2) ∧ v 11 z = r (69 + 6 * z + 3) ∧ (r (69 + 6 * z + 3) = 0 → v 12 z = r (69 + 6 * z + 4)) ∧ (r (69 + 6 * z + 3) = 1 → v 12 z = r (69 + 6 * z + 5)) ∧ isI (r (69 + 6 * z + 0)) (nI np) ∧ isI (r (69 + 6 * z + 1)) (nI np) ∧ isR (r (69 + 6 * z + 2)) 1 40 ∧ isR (r (69 + 6 * z + 3)) 0 2 ∧ isI (r (69 + 6 * z + 4)) (nI np) ∧ (r (69 + 6 * z + 3) = 1 → isR (r (69 + 6 * z + 5)) 0 11)
def CpL (v : Nat → Nat → Int32) (r : Nat → Int32) (nl : Nat) : Prop := ∀ g w, g < nl → w < 4 → v 14 ((nl - 1 - g) * 4 + w) = r (129 + 4 * g + w)
def CpN (v : Nat → Nat → Int32) (r : Nat → Int32) (np ns nl : Nat) : Prop := Cp0 v r np ns nl ∧ Cp1 v r ∧ Cp2 v r ∧ CpU v r np ∧ CpS v r np ns ∧ CpL v r nl
/-- the ints that a valley is -/
def inV (k j : Nat) : Prop := (k = 0 ∧ 4 ≤ j ∧ j ≤ 8) ∨ (k = 1 ∧ (j = 0 ∨ j = 6)) ∨ (2 ≤ k ∧ k ≤ 6 ∧ j < 6) ∨ (k = 7 ∧ j = 0) ∨ (8 ≤ k ∧ k ≤ 12 ∧ j < 10) ∨ (k = 13 ∧ j = 0) ∨ (k = 14 ∧ j < 240) ∨ (k = 15 ∧ j < 12)
theorem CpN_congr {v v' : Nat → Nat → Int32} {r r' : Nat → Int32} {np ns nl : Nat} (hv : ∀ k j, inV k j → v' k j = v k j) (hr : ∀ k, k < 369 → k ≠ 1 → k ≠ 2 → r' k = r k) (C : CpN v r np ns nl) : CpN v' r' np ns nl := by
  obtain ⟨⟨a1, a2, a3, a4, a5, a6, a7, a8, a9⟩, ⟨b1, b2, b3, b4, b5⟩, c, ⟨⟨B, hB, e1⟩, u⟩, s, l⟩ := C
  refine ⟨⟨a1, a2, a3, ?_, ?_, ?_, ?_, ?_, ?_⟩, ⟨?_, ?_, ?_, ?_, ?_⟩, fun p hp => ?_, ⟨⟨B, hB, ?_⟩, fun x hx => ?_⟩, fun z hz => ?_, fun g w hg hw => ?_⟩
  · rw [hr 3 (by omega) (by omega) (by omega)]; exact a4
  · rw [hr 4 (by omega) (by omega) (by omega)]; exact a5
  · rw [hr 7 (by omega) (by omega) (by omega)]; exact a6
  · rw [hv 1 0 (by unfold inV; omega)]; exact a7
  · rw [hv 7 0 (by unfold inV; omega)]; exact a8
  · rw [hv 13 0 (by unfold inV; omega)]; exact a9
  · rw [hv 0 8 (by unfold inV; omega), hr 0 (by omega) (by omega) (by omega)]; exact b1
  · rw [hv 0 6 (by unfold inV; omega), hr 5 (by omega) (by omega) (by omega)]; exact b2
  · rw [hv 0 5 (by unfold inV; omega), hr 6 (by omega) (by omega) (by omega)]; exact b3
  · rw [hv 0 7 (by unfold inV; omega), hr 8 (by omega) (by omega) (by omega)]; exact b4
  · rw [hr 0 (by omega) (by omega) (by omega), hr 5 (by omega) (by omega) (by omega), hr 6 (by omega) (by omega) (by omega)]; exact b5
  · rw [hv 15 p (by unfold inV; omega), hv 0 4 (by unfold inV; omega), hr (9 + p) (by omega) (by omega) (by omega), hr (21 + p) (by omega) (by omega) (by omega)]; exact c p hp
  · rw [hv 1 6 (by unfold inV; omega)]; exact e1
  · rw [hv 2 x (by unfold inV; omega), hv 3 x (by unfold inV; omega), hv 4 x (by unfold inV; omega), hv 5 x (by unfold inV; omega), hv 6 x (by unfold inV; omega), hv 1 6 (by unfold inV; omega), hr (33 + 6 * x + 0) (by omega) (by omega) (by omega), hr (33 + 6 * x + 1) (by omega) (by omega) (by omega), hr (33 + 6 * x + 2) (by omega) (by omega) (by omega), hr (33 + 6 * x + 3) (by omega) (by omega) (by omega), hr (33 + 6 * x + 4) (by omega) (by omega) (by omega), hr (33 + 6 * x + 5) (by omega) (by omega) (by omega)]; exact u x hx
  · rw [hv 8 z (by unfold inV; omega), hv 9 z (by unfold inV; omega), hv 10 z (by unfold inV; omega), hv 11 z (by unfold inV; omega), hv 12 z (by unfold inV; omega), hr (69 + 6 * z + 0) (by omega) (by omega) (by omega), hr (69 + 6 * z + 1) (by omega) (by omega) (by omega), hr (69 + 6 * z + 2) (by omega) (by omega) (by omega), hr (69 + 6 * z + 3) (by omega) (by omega) (by omega), hr (69 + 6 * z + 4) (by omega) (by omega) (by omega), hr (69 + 6 * z + 5) (by omega) (by omega) (by omega)]; exact s z hz
  · rw [hv 14 _ (by unfold inV; omega), hr (129 + 4 * g + w) (by omega) (by omega) (by omega)]; exact l g w hg hw
section
variable {r : Nat → Int32}
theorem v196 {x : Nat} (hx : x < 100) (k : Nat) (hk : k < 100) : V_196 r (nI x) (nI k) = r (33 + 6 * x + k) := by unfold V_196; rw [ixU, nI_clamp (by omega)]
theorem v198 {x : Nat} (hx : x < 100) (k : Nat) (hk : k < 100) : V_198 r (nI x) (nI k) = r (69 + 6 * x + k) := by unfold V_198; rw [ixS, nI_clamp (by omega)]
theorem v194 {x : Int32} {z : Nat} (hz : z < 32) : V_194 r x (nI z) = if bt x z then 1 else 0 := by
  unfold V_194
  simp only [tb1 x hz]
end
section
variable {h : mxH} {a : Nat} {r : Nat → Int32} {np ns nl : Nat}
/-- weights of a set -/
theorem cm_76 (C : CpN (vw h a) r np ns nl) (x : Int32) : V_76 h a x = smS ns (fun z => if bt x z then r (69 + 6 * z + 2) else 0) := by
  have e : mx_i h (a + 7) 0 = nI ns := C.1.2.2.2.2.2.2.2.1
  have hn : ns ≤ 10 := C.1.2.1
  unfold V_76
  rw [e, nI_clamp (by omega)]
  refine smS_of (fun z hz s => ?_)
  unfold F_76_4
  have ew : mx_i h (a + 10) z = r (69 + 6 * z + 2) := (C.2.2.2.2.1 z hz).2.2.1
  rw [nI_clamp (by omega), ew]
  simp only [tb1 x (show z < 32 by omega)]
  cases bt x z <;> simp
theorem md_204 (e : r 4 = nI ns) (hn : ns ≤ 10) (x : Int32) : V_204 r x = smS ns (fun z => if bt x z then r (69 + 6 * z + 2) else 0) := by
  unfold V_204
  rw [e, nI_clamp (by omega)]
  refine smS_of (fun z hz s => ?_)
  unfold F_204_4
  rw [v194 (by omega), show (2 : Int32) = nI 2 from rfl, v198 (by omega) 2 (by omega)]
  cases bt x z <;> simp
theorem cm_weightOf (C : CpN (vw h a) r np ns nl) (x : Int32) : V_76 h a x = V_204 r x := by
  rw [cm_76 C, md_204 C.1.2.2.2.2.1 C.1.2.1]
theorem md_203 (e : r 4 = nI ns) (hn : ns ≤ 10) (x : Int32) : V_203 r x = orS ns (fun z => decide (r (69 + 6 * z + 3) = 0 ∧ r (69 + 6 * z + 4) = x)) := by
  unfold V_203
  rw [e, nI_clamp (by omega)]
  refine orS_of (fun z hz s => ?_)
  unfold F_203_4
  rw [show (3 : Int32) = nI 3 from rfl, show (4 : Int32) = nI 4 from rfl, v198 (by omega) 3 (by omega), v198 (by omega) 4 (by omega)]
  by_cases h0 : r (69 + 6 * z + 3) = 0 <;> by_cases h1 : r (69 + 6 * z + 4) = x <;> simp [h0, h1, or_0]
theorem md_205 (e : r 4 = nI ns) (hn : ns ≤ 10) (x : Int32) : V_205 r x = smS ns (fun z => if r (69 + 6 * z + 3) = 0 ∧ r (69 + 6 * z + 4) = x then r (69 + 6 * z + 2) else 0) := by
  unfold V_205
  rw [md_203 e hn, md_204 e hn]
  refine smS_congr (fun z hz => ?_)
  rw [bt_orS (by omega) _ (by omega)]
  simp [hz]
theorem cm_load (C : CpN (vw h a) r np ns nl) (x : Int32) : V_77 h a x = V_205 r x := by
  have e : mx_i h (a + 7) 0 = nI ns := C.1.2.2.2.2.2.2.2.1
  have hn : ns ≤ 10 := C.1.2.1
  rw [md_205 C.1.2.2.2.2.1 hn]
  unfold V_77
  rw [e, nI_clamp (by omega)]
  refine smS_of (fun z hz s => ?_)
  unfold F_77_4
  obtain ⟨s1, s2, s3, s4, s5, s6, -⟩ := C.2.2.2.2.1 z hz
  have e4 : mx_i h (a + 11) z = r (69 + 6 * z + 3) := s4
  have e3 : mx_i h (a + 10) z = r (69 + 6 * z + 2) := s3
  rw [nI_clamp (by omega), e4, e3]
  by_cases h0 : r (69 + 6 * z + 3) = 0
  · have e5 : mx_i h (a + 12) z = r (69 + 6 * z + 4) := s5 h0
    rw [e5]
    by_cases h1 : r (69 + 6 * z + 4) = x <;> simp [h0, h1]
  · simp [h0]
end
