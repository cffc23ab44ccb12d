/-! AN HOUR as a function of the row; valley and row stay coupled -/
def rs (r : Nat → Int32) (k : Nat) (w : Int32) : Nat → Int32 := fun j => if j = k then w else r j
def vs (v : Nat → Nat → Int32) (k j : Nat) (w : Int32) : Nat → Nat → Int32 := fun k' j' => if k' = k ∧ j' = j then w else v k' j'
section
variable {r : Nat → Int32} {v : Nat → Nat → Int32} {w : Int32}
theorem rs_at {k : Nat} : rs r k w k = w := if_pos rfl
theorem rs_ne {k j : Nat} (h : j ≠ k) : rs r k w j = r j := if_neg h
theorem vs_at {k j : Nat} : vs v k j w k j = w := if_pos ⟨rfl, rfl⟩
theorem vs_ne {k j k' j' : Nat} (h : ¬ (k' = k ∧ j' = j)) : vs v k j w k' j' = v k' j' := if_neg h
theorem vw_ex (v : Nat → Nat → Int32) : ∃ (h : mxH) (a : Nat), vw h a = v := ⟨(0, 0, 0, v, fun _ _ => 0, fun _ _ => 0), 0, by funext k j; show v (0 + k) j = v k j; rw [Nat.zero_add]⟩
end
section
variable {r : Nat → Int32} {v : Nat → Nat → Int32} {np ns nl : Nat}
/-- a field of a person: purse, place, tired -/
theorem CpN_uf (C : CpN v r np ns nl) {x : Nat} (hx : x < np) {f : Nat} {w : Int32} (hf : (f = 0 ∧ isR w 0 9999) ∨ (f = 2 ∧ isR w 0 11) ∨ (f = 4 ∧ isR w 0 99)) : CpN (vs v (2 + f) x w) (rs r (33 + 6 * x + f) w) np ns nl := by
  obtain ⟨c0, c1, c2, ⟨⟨B, hB, e6⟩, u⟩, s, l⟩ := C
  have hn := c0.1
  have h10 := c0.2.1
  have h60 := c0.2.2.1
  refine ⟨Cp0_c (vs_ne (by omega)) (vs_ne (by omega)) (vs_ne (by omega)) (rs_ne (by omega)) (rs_ne (by omega)) (rs_ne (by omega)) c0, Cp1_c (vs_ne (by omega)) (vs_ne (by omega)) (vs_ne (by omega)) (vs_ne (by omega)) (rs_ne (by omega)) (rs_ne (by omega)) (rs_ne (by omega)) (rs_ne (by omega)) c1, Cp2_c (vs_ne (by omega)) (fun p hp => vs_ne (by omega)) (fun k a b => rs_ne (by omega)) c2, ⟨⟨B, hB, by rw [vs_ne (by omega)]; exact e6⟩, fun y hy => ?_⟩, CpS_c h10 (fun k z a b c => vs_ne (by omega)) (fun k a b => rs_ne (by omega)) s, CpL_c h60 (fun j hj => vs_ne (by omega)) (fun k a b => rs_ne (by omega)) l⟩
  obtain ⟨u0, u1, u2, u3, u4, u5, i0, i1, i2, i3, i4⟩ := u y hy
  have vv : ∀ k, k ≤ 4 → vs v (2 + f) x w (2 + k) y = if k = f ∧ y = x then w else v (2 + k) y := fun k hk => by
    unfold vs
    by_cases c : k = f ∧ y = x
    · rw [if_pos (by omega), if_pos c]
    · rw [if_neg (by omega), if_neg c]
  have rr : ∀ k, k ≤ 5 → rs r (33 + 6 * x + f) w (33 + 6 * y + k) = if k = f ∧ y = x then w else r (33 + 6 * y + k) := fun k hk => by
    unfold rs
    by_cases c : k = f ∧ y = x
    · rw [if_pos (by omega), if_pos c]
    · rw [if_neg (by omega), if_neg c]
  have v1 : vs v (2 + f) x w 1 6 = v 1 6 := vs_ne (by omega)
  have q0 := vv 0 (by omega); have q1 := vv 1 (by omega); have q2 := vv 2 (by omega); have q3 := vv 3 (by omega); have q4 := vv 4 (by omega)
  rw [show 2 + 0 = 2 from rfl] at q0
  rw [show 2 + 1 = 3 from rfl] at q1
  rw [show 2 + 2 = 4 from rfl] at q2
  rw [show 2 + 3 = 5 from rfl] at q3
  rw [show 2 + 4 = 6 from rfl] at q4
  rw [q0, q1, q2, q3, q4, v1, rr 0 (by omega), rr 1 (by omega), rr 2 (by omega), rr 3 (by omega), rr 4 (by omega), rr 5 (by omega)]
  by_cases c : y = x
  · rcases hf with ⟨rfl, hw⟩ | ⟨rfl, hw⟩ | ⟨rfl, hw⟩
    · simp only [c, and_true, if_true, show ¬ (1 = 0) by decide, show ¬ (2 = 0) by decide, show ¬ (3 = 0) by decide, show ¬ (4 = 0) by decide, show ¬ (5 = 0) by decide, if_false]
      rw [← c]
      exact ⟨trivial, u1, u2, u3, u4, u5, hw, i1, i2, i3, i4⟩
    · simp only [c, and_true, if_true, show ¬ (0 = 2) by decide, show ¬ (1 = 2) by decide, show ¬ (3 = 2) by decide, show ¬ (4 = 2) by decide, show ¬ (5 = 2) by decide, if_false]
      rw [← c]
      exact ⟨u0, u1, trivial, u3, u4, u5, i0, i1, hw, i3, i4⟩
    · simp only [c, and_true, if_true, show ¬ (0 = 4) by decide, show ¬ (1 = 4) by decide, show ¬ (3 = 4) by decide, show ¬ (2 = 4) by decide, show ¬ (5 = 4) by decide, if_false]
      rw [← c]
      exact ⟨u0, u1, u2, u3, trivial, u5, i0, i1, i2, i3, hw⟩
  · simp only [c, and_false, if_false]
    exact ⟨u0, u1, u2, u3, u4, u5, i0, i1, i2, i3, i4⟩
/-- the seed -/
theorem CpN_sd (C : CpN v r np ns nl) (w : Int32) : CpN (vs v 0 7 w) (rs r 8 w) np ns nl := by
  obtain ⟨c0, c1, c2, u, s, l⟩ := C
  have hn := c0.1
  have h10 := c0.2.1
  have h60 := c0.2.2.1
  refine ⟨Cp0_c (vs_ne (by omega)) (vs_ne (by omega)) (vs_ne (by omega)) (rs_ne (by omega)) (rs_ne (by omega)) (rs_ne (by omega)) c0, ?_, Cp2_c (vs_ne (by omega)) (fun p hp => vs_ne (by omega)) (fun k a b => rs_ne (by omega)) c2, CpU_c hn (vs_ne (by omega)) (fun k x a b c => vs_ne (by omega)) (fun k a b => rs_ne (by omega)) u, CpS_c h10 (fun k z a b c => vs_ne (by omega)) (fun k a b => rs_ne (by omega)) s, CpL_c h60 (fun j hj => vs_ne (by omega)) (fun k a b => rs_ne (by omega)) l⟩
  obtain ⟨a1, a2, a3, a4, a5, a6, a7⟩ := c1
  refine ⟨?_, ?_, ?_, ?_, ?_, ?_, ?_⟩
  · rw [vs_ne (by omega), rs_ne (by omega)]; exact a1
  · rw [vs_ne (by omega), rs_ne (by omega)]; exact a2
  · rw [vs_ne (by omega), rs_ne (by omega)]; exact a3
  · rw [vs_at, rs_at]
  · rw [rs_ne (by omega)]; exact a5
  · rw [rs_ne (by omega)]; exact a6
  · rw [rs_ne (by omega)]; exact a7
/-- the hour -/
theorem CpN_hr (C : CpN v r np ns nl) {w : Int32} (hw : isR w 0 9999) : CpN (vs v 0 6 w) (rs r 5 w) np ns nl := by
  obtain ⟨c0, c1, c2, u, s, l⟩ := C
  have hn := c0.1
  have h10 := c0.2.1
  have h60 := c0.2.2.1
  refine ⟨Cp0_c (vs_ne (by omega)) (vs_ne (by omega)) (vs_ne (by omega)) (rs_ne (by omega)) (rs_ne (by omega)) (rs_ne (by omega)) c0, ?_, Cp2_c (vs_ne (by omega)) (fun p hp => vs_ne (by omega)) (fun k a b => rs_ne (by omega)) c2, CpU_c hn (vs_ne (by omega)) (fun k x a b c => vs_ne (by omega)) (fun k a b => rs_ne (by omega)) u, CpS_c h10 (fun k z a b c => vs_ne (by omega)) (fun k a b => rs_ne (by omega)) s, CpL_c h60 (fun j hj => vs_ne (by omega)) (fun k a b => rs_ne (by omega)) l⟩
  obtain ⟨a1, a2, a3, a4, a5, a6, a7⟩ := c1
  refine ⟨?_, ?_, ?_, ?_, ?_, ?_, ?_⟩
  · rw [vs_ne (by omega), rs_ne (by omega)]; exact a1
  · rw [vs_at, rs_at]
  · rw [vs_ne (by omega), rs_ne (by omega)]; exact a3
  · rw [vs_ne (by omega), rs_ne (by omega)]; exact a4
  · rw [rs_ne (by omega)]; exact a5
  · rw [rs_at]; exact hw
  · rw [rs_ne (by omega)]; exact a7
/-- the weight of a stone -/
theorem CpN_wt (C : CpN v r np ns nl) {z : Nat} (hz : z < ns) {w : Int32} (hw : isR w 1 40) : CpN (vs v 10 z w) (rs r (69 + 6 * z + 2) w) np ns nl := by
  obtain ⟨c0, c1, c2, u, s, l⟩ := C
  have hn := c0.1
  have h10 := c0.2.1
  have h60 := c0.2.2.1
  refine ⟨Cp0_c (vs_ne (by omega)) (vs_ne (by omega)) (vs_ne (by omega)) (rs_ne (by omega)) (rs_ne (by omega)) (rs_ne (by omega)) c0, Cp1_c (vs_ne (by omega)) (vs_ne (by omega)) (vs_ne (by omega)) (vs_ne (by omega)) (rs_ne (by omega)) (rs_ne (by omega)) (rs_ne (by omega)) (rs_ne (by omega)) c1, Cp2_c (vs_ne (by omega)) (fun p hp => vs_ne (by omega)) (fun k a b => rs_ne (by omega)) c2, CpU_c hn (vs_ne (by omega)) (fun k x a b c => vs_ne (by omega)) (fun k a b => rs_ne (by omega)) u, fun y hy => ?_, CpL_c h60 (fun j hj => vs_ne (by omega)) (fun k a b => rs_ne (by omega)) l⟩
  have sy := s y hy
  have e8 : vs v 10 z w 8 y = v 8 y := vs_ne (by omega)
  have e9 : vs v 10 z w 9 y = v 9 y := vs_ne (by omega)
  have e11 : vs v 10 z w 11 y = v 11 y := vs_ne (by omega)
  have e12 : vs v 10 z w 12 y = v 12 y := vs_ne (by omega)
  have r0 : rs r (69 + 6 * z + 2) w (69 + 6 * y + 0) = r (69 + 6 * y + 0) := rs_ne (by omega)
  have r1 : rs r (69 + 6 * z + 2) w (69 + 6 * y + 1) = r (69 + 6 * y + 1) := rs_ne (by omega)
  have r3 : rs r (69 + 6 * z + 2) w (69 + 6 * y + 3) = r (69 + 6 * y + 3) := rs_ne (by omega)
  have r4 : rs r (69 + 6 * z + 2) w (69 + 6 * y + 4) = r (69 + 6 * y + 4) := rs_ne (by omega)
  have r5 : rs r (69 + 6 * z + 2) w (69 + 6 * y + 5) = r (69 + 6 * y + 5) := rs_ne (by omega)
  rw [e8, e9, e11, e12, r0, r1, r3, r4, r5]
  obtain ⟨s0, s1, s2, s3, s4, s5, s6, s7, s8, s9⟩ := sy
  by_cases c : y = z
  · subst c
    rw [vs_at, rs_at]
    exact ⟨s0, s1, rfl, s3, s4, s5, s6, s7, hw, s9⟩
  · rw [vs_ne (by omega), rs_ne (by omega)]
    exact ⟨s0, s1, s2, s3, s4, s5, s6, s7, s8, s9⟩
/-- one is hurt -/
theorem CpN_hu (C : CpN v r np ns nl) {x : Nat} (hx : x < np) : CpN (vs v 1 6 (v 1 6 ||| ((1 : Int32) <<< (nI x &&& 31)))) (rs r (33 + 6 * x + 5) 1) np ns nl := by
  obtain ⟨c0, c1, c2, ⟨⟨B, hB, e6⟩, u⟩, s, l⟩ := C
  have hn := c0.1
  have h10 := c0.2.1
  have h60 := c0.2.2.1
  refine ⟨Cp0_c (vs_ne (by omega)) (vs_ne (by omega)) (vs_ne (by omega)) (rs_ne (by omega)) (rs_ne (by omega)) (rs_ne (by omega)) c0, Cp1_c (vs_ne (by omega)) (vs_ne (by omega)) (vs_ne (by omega)) (vs_ne (by omega)) (rs_ne (by omega)) (rs_ne (by omega)) (rs_ne (by omega)) (rs_ne (by omega)) c1, Cp2_c (vs_ne (by omega)) (fun p hp => vs_ne (by omega)) (fun k a b => rs_ne (by omega)) c2, ⟨⟨B ||| 2 ^ x, Nat.or_lt_two_pow hB (Nat.pow_lt_pow_right (by decide) hx), ?_⟩, fun y hy => ?_⟩, CpS_c h10 (fun k z a b c => vs_ne (by omega)) (fun k a b => rs_ne (by omega)) s, CpL_c h60 (fun j hj => vs_ne (by omega)) (fun k a b => rs_ne (by omega)) l⟩
  · rw [vs_at, e6]
    refine b_ext (fun i hi => ?_)
    rw [b_or, bt_nI hi, bt_nI hi, b_one (by omega) hi, Nat.testBit_or, Nat.testBit_two_pow]
    congr 1
    by_cases q : i = x
    · simp [q]
    · simp [q, Ne.symm q]
  · obtain ⟨u0, u1, u2, u3, u4, u5, i0⟩ := u y hy
    rw [vs_ne (by omega), vs_ne (by omega), vs_ne (by omega), vs_ne (by omega), vs_ne (by omega), vs_at, rs_ne (by omega), rs_ne (by omega), rs_ne (by omega), rs_ne (by omega), rs_ne (by omega)]
    refine ⟨u0, u1, u2, u3, u4, ?_, i0⟩
    rw [tbv _ (by omega), b_or, b_one (by omega) (by omega)]
    by_cases q : y = x
    · subst q
      rw [rs_at]; simp
    · rw [rs_ne (by omega), u5, tbv _ (by omega)]
      simp [q]
end
/-! what the law says: bounds, and what it rests on -/
theorem isR_N {x : Int32} {B : Nat} (hB : B < 2 ^ 31) (h : isR x 0 (nI B)) : ∃ m : Nat, m ≤ B ∧ x = nI m := by
  obtain ⟨m, hm, rfl⟩ := nI_of (x := x) (by have := h.1; grind)
  refine ⟨m, ?_, rfl⟩
  rcases Nat.lt_or_ge B m with q | q
  · have := nI_lt q hm
    have := h.2
    grind
  · exact q
theorem N_isR {m B : Nat} (hB : B < 2 ^ 31) (h : m ≤ B) : isR (nI m) 0 (nI B) := ⟨nI_pos' (by omega), by
  rcases Nat.lt_or_ge m B with q | q
  · have := nI_lt q hB
    grind
  · rw [show m = B by omega]; exact Int32.le_refl _⟩
theorem smL_bd {F : Nat → Int32} {j : Nat} : ∀ (Ls : List LL) (m : Nat), Lb Ls → ∃ k, k ≤ m + 99 * Ls.length ∧ smL F j Ls (nI m) = nI k := by
  intro Ls
  induction Ls with
  | nil => intro m _; exact ⟨m, by omega, rfl⟩
  | cons L Ls ih =>
    intro m h
    have hL : isR L.2.1 0 99 := h L (List.mem_cons_self)
    obtain ⟨q, hq, e⟩ := isR_N (B := 99) (by decide) hL
    have h' : Lb Ls := fun M hM => h M (List.mem_cons_of_mem _ hM)
    show ∃ k, _ ∧ smL F j Ls (nI m + (if L.1 = nI j ∧ hl F L.2.2 = true then L.2.1 else 0)) = nI k
    by_cases c : L.1 = nI j ∧ hl F L.2.2 = true
    · rw [if_pos c, e, nI_add]
      obtain ⟨k, hk, ek⟩ := ih (m + q) h'
      exact ⟨k, by rw [List.length_cons]; omega, ek⟩
    · rw [if_neg c, Int32.add_zero]
      obtain ⟨k, hk, ek⟩ := ih m h'
      exact ⟨k, by rw [List.length_cons]; omega, ek⟩
/-- the law's bounds -/
def Wb (W : Option (List LL)) : Prop := match W with
  | none => True
  | some Ls => Ls.length ≤ 12 ∧ Lb Ls
theorem LC_b {u : Nat → Nat → Int32} {W : Option (List LL)} (h : LC u W) : Wb W := by
  match W, h with
  | none, h => trivial
  | some Ls, h => exact ⟨h.2.2.1, h.2.2.2.2⟩
theorem LR_b {r : Nat → Int32} {W : Option (List LL)} (h : LR r W) : Wb W := by
  match W, h with
  | none, h => trivial
  | some Ls, h => exact h.1
theorem nI_div {m k : Nat} (hm : m < 2 ^ 31) (hk : 0 < k) (hk2 : k < 2 ^ 31) : nI m / nI k = nI (m / k) := pk_div hm hk hk2
section
variable {r : Nat → Int32} {v : Nat → Nat → Int32} {np ns nl x : Nat} {W : Option (List LL)}
theorem load_b (C : CpN v r np ns nl) (x : Int32) : ∃ m : Nat, m ≤ 400 ∧ V_205 r x = nI m := by
  obtain ⟨h, a, rfl⟩ := vw_ex v
  exact load_bd C x
theorem ask_b (C : CpN v r np ns nl) (hW : Wb W) {j : Nat} (hj : j < 2) : ∃ m : Nat, m ≤ 1200 ∧ ask W r x j = nI m := by
  match W, hW with
  | none, _ =>
    obtain ⟨m, hm, e⟩ := load_b C (nI x)
    have ed : V_205 r (nI x) / 4 = nI (m / 4) := by rw [e, show (4 : Int32) = nI 4 from rfl]; exact nI_div (by omega) (by decide) (by decide)
    have : j = 0 ∨ j = 1 := by omega
    rcases this with rfl | rfl
    · exact ⟨m / 4, by omega, ed⟩
    · show ∃ k : Nat, _ ∧ (if 0 < 10 - V_205 r (nI x) / 4 then 10 - V_205 r (nI x) / 4 else 0) = nI k
      rw [ed]
      by_cases q : m / 4 ≤ 10
      · rw [show (10 : Int32) = nI 10 from rfl, nI_sb q]
        split
        · exact ⟨10 - m / 4, by omega, rfl⟩
        · exact ⟨0, by omega, rfl⟩
      · rw [if_neg]
        · exact ⟨0, by omega, rfl⟩
        · have := nI_lt (a := 10) (b := m / 4) (by omega) (by omega)
          have h10 : nI 10 = 10 := rfl
          have hb : nI (m / 4) < 1000 := nI_lt (b := 1000) (by omega) (by decide)
          rw [h10] at this
          grind
  | some Ls, hW =>
    obtain ⟨k, hk, e⟩ := smL_bd (F := Ff r x) (j := j) Ls 0 hW.2
    exact ⟨k, by have := hW.1; omega, e⟩
theorem load_c {r' : Nat → Int32} (C : CpN v r np ns nl) (h4 : r' 4 = r 4) (hr : ∀ k, 69 ≤ k → k < 129 → r' k = r k) (x : Int32) : V_205 r' x = V_205 r x := by
  have e := C_ns C
  have hn := C_ns10 C
  rw [md_205 e hn, md_205 (h4.trans e) hn]
  refine smS_congr (fun z hz => ?_)
  rw [hr _ (by omega) (by omega), hr _ (by omega) (by omega), hr _ (by omega) (by omega)]
/-- the seed is no fact -/
theorem ask_sd (C : CpN v r np ns nl) (hx : x < np) {w : Int32} {j : Nat} : ask W (rs r 8 w) x j = ask W r x j := by
  have hl := load_c (r' := rs r 8 w) C (rs_ne (by omega)) (fun k a b => rs_ne (by omega)) (nI x)
  have h6 := C_np6 C
  have c12 : (r (33 + 6 * x + 2)).toNatClampNeg < 12 := by
    have pl : isR (r (33 + 6 * x + 2)) 0 11 := by obtain ⟨h, a, rfl⟩ := vw_ex v; exact Cu_l C hx
    obtain ⟨m, hm, e⟩ := isR_N (B := 11) (by decide) pl
    rw [e, nI_clamp (by omega)]; omega
  match W with
  | none =>
    unfold ask
    rw [hl, rs_ne (by omega)]
  | some Ls =>
    unfold ask
    have : Ff (rs r 8 w) x = Ff r x := by
      funext k
      unfold Ff
      rw [hl, rs_ne (show 33 + 6 * x + 1 ≠ 8 by omega), rs_ne (show 33 + 6 * x + 2 ≠ 8 by omega), rs_ne (show 33 + 6 * x + 3 ≠ 8 by omega), rs_ne (show 33 + 6 * x + 4 ≠ 8 by omega), rs_ne (show 5 ≠ 8 by omega), rs_ne (show 9 + (r (33 + 6 * x + 2)).toNatClampNeg ≠ 8 by omega)]
    rw [this]
end
