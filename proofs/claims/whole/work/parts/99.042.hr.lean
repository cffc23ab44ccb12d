/-! AN HOUR as a function of the row -/
def mn (m x : Int32) : Int32 := if m < x then m else x
theorem mn_c {m x : Int32} : (if x < m then x else m) = mn m x := by
  unfold mn
  by_cases c : x < m
  · rw [if_pos c, if_neg (by grind)]
  · rw [if_neg c]
    by_cases q : m < x
    · rw [if_pos q]
    · rw [if_neg q]; grind
def stp1 (p g : Int32) : Int32 := if p < g then p + 1 else p - 1
/-- one earns, or walks -/
def wlkR (W : Option (List LL)) (r : Nat → Int32) (x : Nat) : Nat → Int32 :=
  if r (33 + 6 * x + 2) = r (33 + 6 * x + 3) then rs r (33 + 6 * x + 0) (mn 9999 (r (33 + 6 * x + 0) + ask W r x 1))
  else if V_206 r (nI x) = 0 ∧ ¬ V_239 r (V_205 r (nI x)) (r (33 + 6 * x + 2)) (stp1 (r (33 + 6 * x + 2)) (r (33 + 6 * x + 3))) = 0 then rs r (33 + 6 * x + 2) (stp1 (r (33 + 6 * x + 2)) (r (33 + 6 * x + 3)))
  else r
def tirR (W : Option (List LL)) (r : Nat → Int32) (x : Nat) : Nat → Int32 := rs r (33 + 6 * x + 4) (mn 99 (r (33 + 6 * x + 4) + ask W r x 0))
def nxs (s : Int32) : Int32 := 1103515245 * s + 12345
def drw (s : Int32) : Int32 := ((s.toUInt32 >>> ((16 : Int32).toUInt32 &&& Int32.toUInt32 31)).toInt32 &&& 32767) - ((s.toUInt32 >>> ((16 : Int32).toUInt32 &&& Int32.toUInt32 31)).toInt32 &&& 32767) / 100 * 100
def drR (W : Option (List LL)) (r : Nat → Int32) (x : Nat) : Nat → Int32 := rs (tirR W r x) 8 (nxs (r 8))
abbrev isHt (W : Option (List LL)) (r : Nat → Int32) (x : Nat) : Prop := drw (nxs (r 8)) < askC W (drR W r x) x 2
/-- one gets tired, and may be hurt -/
def stp (W : Option (List LL)) (dr : Int32) (x : Nat) (s : (Nat → Int32) × Int32) : (Nat → Int32) × Int32 :=
  if s.1 (33 + 6 * x + 5) = 1 then s
  else if dr = 0 then (tirR W s.1 x, s.2)
  else if isHt W s.1 x then (rs (drR W s.1 x) (33 + 6 * x + 5) 1, s.2 + 1)
  else (drR W s.1 x, s.2)
def grw (z : Nat) (r : Nat → Int32) : Nat → Int32 := if r (69 + 6 * z + 3) < 2 then rs r (69 + 6 * z + 2) (mn 40 (r (69 + 6 * z + 2) + 1)) else r
def hlf (x : Nat) (r : Nat → Int32) : Nat → Int32 := rs r (33 + 6 * x + 4) (r (33 + 6 * x + 4) / 2)
def dwR (np ns : Nat) (r : Nat → Int32) : Nat → Int32 := fo hlf np (fo grw ns r)
def endR (np ns : Nat) (r : Nat → Int32) : Nat → Int32 := if r 5 = 9999 then r else if (r 5 + 1) - (r 5 + 1) / 24 * 24 = 0 then dwR np ns (rs r 5 (r 5 + 1)) else rs r 5 (r 5 + 1)
def hrT (W : Option (List LL)) (dr : Int32) (np : Nat) (r : Nat → Int32) : (Nat → Int32) × Int32 := fo (stp W dr) np (fo (fun x r => wlkR W r x) np r, 0)
def hrS (W : Option (List LL)) (dr : Int32) (np ns : Nat) (r : Nat → Int32) : (Nat → Int32) × Int32 := (endR np ns (hrT W dr np r).1, (hrT W dr np r).2)
section
variable {r : Nat → Int32} {v : Nat → Nat → Int32} {np ns nl x : Nat} {W : Option (List LL)}
theorem earn_R (C : CpN v r np ns nl) (hW : Wb W) (hx : x < np) : isR (mn 9999 (r (33 + 6 * x + 0) + ask W r x 1)) 0 9999 := by
  obtain ⟨m, hm, e⟩ := ask_b (x := x) C hW (j := 1) (by decide)
  have : isR (r (33 + 6 * x + 0)) 0 9999 := by obtain ⟨h, a, rfl⟩ := vw_ex v; exact Cu_p C hx
  obtain ⟨q, hq, eq⟩ := isR_N (B := 9999) (by decide) this
  rw [e, eq, nI_add]
  unfold mn
  by_cases c : 9999 < q + m
  · rw [if_pos (show (9999 : Int32) < nI (q + m) from nI_lt (a := 9999) c (by omega))]; exact ⟨by decide, by decide⟩
  · rw [if_neg (show ¬ (9999 : Int32) < nI (q + m) from fun y => c ((nI_ltI (a := 9999) (by decide) (by omega)).mp y))]
    exact N_isR (B := 9999) (by decide) (by omega)
theorem tire_R (C : CpN v r np ns nl) (hW : Wb W) (hx : x < np) : isR (mn 99 (r (33 + 6 * x + 4) + ask W r x 0)) 0 99 := by
  obtain ⟨m, hm, e⟩ := ask_b (x := x) C hW (j := 0) (by decide)
  have : isR (r (33 + 6 * x + 4)) 0 99 := by obtain ⟨h, a, rfl⟩ := vw_ex v; exact Cu_t C hx
  obtain ⟨q, hq, eq⟩ := isR_N (B := 99) (by decide) this
  rw [e, eq, nI_add]
  unfold mn
  by_cases c : 99 < q + m
  · rw [if_pos (show (99 : Int32) < nI (q + m) from nI_lt (a := 99) c (by omega))]; exact ⟨by decide, by decide⟩
  · rw [if_neg (show ¬ (99 : Int32) < nI (q + m) from fun y => c ((nI_ltI (a := 99) (by decide) (by omega)).mp y))]
    exact N_isR (B := 99) (by decide) (by omega)
theorem stp1_R {p g : Int32} (hp : isR p 0 11) (hg : isR g 0 11) (ne : ¬ p = g) : isR (stp1 p g) 0 11 := by
  obtain ⟨a1, a2⟩ := hp
  obtain ⟨b1, b2⟩ := hg
  unfold stp1
  split
  · exact ⟨by grind, by grind⟩
  · exact ⟨by grind, by grind⟩
theorem halfR {t : Int32} (h : isR t 0 99) : isR (t / 2) 0 99 := by
  obtain ⟨q, hq, rfl⟩ := isR_N (B := 99) (by decide) h
  rw [show (2 : Int32) = nI 2 from rfl, nI_div (by omega) (by decide) (by decide)]
  exact N_isR (B := 99) (by decide) (by omega)
theorem wt_R {w : Int32} (h : isR w 1 40) : isR (mn 40 (w + 1)) 1 40 := by
  obtain ⟨a, b⟩ := h
  unfold mn
  split
  · exact ⟨by decide, by decide⟩
  · exact ⟨by grind, by grind⟩
theorem hour_R {w : Int32} (h : isR w 0 9999) (ne : ¬ w = 9999) : isR (w + 1) 0 9999 := by
  obtain ⟨a, b⟩ := h
  exact ⟨by grind, by grind⟩
/-- a row that some valley is coupled with -/
def Rok (r : Nat → Int32) (np ns nl : Nat) : Prop := ∃ v, CpN v r np ns nl
theorem wlk_ok (hW : Wb W) (hx : x < np) (R : Rok r np ns nl) : Rok (wlkR W r x) np ns nl := by
  obtain ⟨v, C⟩ := R
  unfold wlkR
  split
  · exact ⟨_, CpN_uf C hx (.inl ⟨rfl, earn_R C hW hx⟩)⟩
  · rename_i ne
    split
    · have h2 : isR (r (33 + 6 * x + 2)) 0 11 := by obtain ⟨h, a, rfl⟩ := vw_ex v; exact Cu_l C hx
      have h3 : isR (r (33 + 6 * x + 3)) 0 11 := by obtain ⟨h, a, rfl⟩ := vw_ex v; exact Cu_g C hx
      exact ⟨_, CpN_uf C hx (.inr (.inl ⟨rfl, stp1_R h2 h3 ne⟩))⟩
    · exact ⟨v, C⟩
theorem tir_ok (hW : Wb W) (hx : x < np) (R : Rok r np ns nl) : Rok (tirR W r x) np ns nl := by
  obtain ⟨v, C⟩ := R
  exact ⟨_, CpN_uf C hx (.inr (.inr ⟨rfl, tire_R C hW hx⟩))⟩
theorem dr_ok (hW : Wb W) (hx : x < np) (R : Rok r np ns nl) : Rok (drR W r x) np ns nl := by
  obtain ⟨v, C⟩ := tir_ok hW hx R
  exact ⟨_, CpN_sd C _⟩
theorem stp_ok {dr : Int32} {s : (Nat → Int32) × Int32} (hW : Wb W) (hx : x < np) (R : Rok s.1 np ns nl) : Rok (stp W dr x s).1 np ns nl := by
  unfold stp
  split
  · exact R
  · split
    · exact tir_ok hW hx R
    · split
      · obtain ⟨v, C⟩ := dr_ok hW hx R
        exact ⟨_, CpN_hu C hx⟩
      · exact dr_ok hW hx R
theorem fo_ok {α : Type} {f : Nat → α → α} {P : α → Prop} {N : Nat} (hf : ∀ z s, z < N → P s → P (f z s)) : ∀ n s, n ≤ N → P s → P (fo f n s) := by
  intro n
  induction n with
  | zero => intro s _ h; exact h
  | succ n ih => intro s hn h; exact hf n _ (by omega) (ih s (by omega) h)
theorem hrT_ok {dr : Int32} (hW : Wb W) (R : Rok r np ns nl) : Rok (hrT W dr np r).1 np ns nl := by
  unfold hrT
  refine fo_ok (P := fun (s : (Nat → Int32) × Int32) => Rok s.1 np ns nl) (N := np) (fun z s hz R => stp_ok hW hz R) np _ (Nat.le_refl _) ?_
  exact fo_ok (P := fun s => Rok s np ns nl) (N := np) (fun z s hz R => wlk_ok hW hz R) np _ (Nat.le_refl _) R
theorem grw_ok (hz : x < ns) (R : Rok r np ns nl) : Rok (grw x r) np ns nl := by
  obtain ⟨v, C⟩ := R
  unfold grw
  split
  · have hw : isR (r (69 + 6 * x + 2)) 1 40 := by obtain ⟨h, a, rfl⟩ := vw_ex v; exact Cs_w C hz
    exact ⟨_, CpN_wt C hz (wt_R hw)⟩
  · exact ⟨v, C⟩
theorem hlf_ok (hx : x < np) (R : Rok r np ns nl) : Rok (hlf x r) np ns nl := by
  obtain ⟨v, C⟩ := R
  have : isR (r (33 + 6 * x + 4)) 0 99 := by obtain ⟨h, a, rfl⟩ := vw_ex v; exact Cu_t C hx
  exact ⟨_, CpN_uf C hx (.inr (.inr ⟨rfl, halfR this⟩))⟩
theorem dwR_ok (R : Rok r np ns nl) : Rok (dwR np ns r) np ns nl := by
  unfold dwR
  refine fo_ok (P := fun s => Rok s np ns nl) (N := np) (fun z s hz R => hlf_ok hz R) np _ (Nat.le_refl _) ?_
  exact fo_ok (P := fun s => Rok s np ns nl) (N := ns) (fun z s hz R => grw_ok hz R) ns _ (Nat.le_refl _) R
theorem endR_ok (R : Rok r np ns nl) : Rok (endR np ns r) np ns nl := by
  unfold endR
  split
  · exact R
  · rename_i ne
    have R1 : Rok (rs r 5 (r 5 + 1)) np ns nl := by
      obtain ⟨v, C⟩ := R
      exact ⟨_, CpN_hr C (hour_R C.2.1.2.2.2.2.2.1 ne)⟩
    split
    · exact dwR_ok R1
    · exact R1
theorem hrS_ok {dr : Int32} (hW : Wb W) (R : Rok r np ns nl) : Rok (hrS W dr np ns r).1 np ns nl := endR_ok (hrT_ok hW R)
/-! what an hour leaves -/
def offR (k : Nat) : Prop := k < 3 ∨ k = 4 ∨ k = 3 ∨ k = 6 ∨ k = 7 ∨ 129 ≤ k
theorem rs_off {w : Int32} {j k : Nat} (hk : offR k) (hj : j = 5 ∨ j = 8 ∨ (9 ≤ j ∧ j < 129)) : rs r j w k = r k := rs_ne (by unfold offR at hk; omega)
end
