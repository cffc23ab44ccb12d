/-! SPECS by hand, 28: a line of the valley: what is read of it; the class's short lines -/
def nb (T : Nat → Int32) (n : Nat) (lo hi : Int32) (p : Nat) : Sum Nat (Int32 × Nat) := if sk T n p < endN T n p ∧ endN T n p ≤ sk T n p + 3 ∧ ¬ numN T n p < lo ∧ ¬ hi < numN T n p then .inr (numN T n p, endN T n p) else .inl (sk T n p)
def wd (T : Nat → Int32) (n k p : Nat) : Sum Nat Nat := if wrd T n k p = true then .inr (sk T n p + wl k) else .inl (sk T n p)
def bnd {α β : Type} (x : Sum Nat α) (k : α → Sum Nat β) : Sum Nat β := match x with
  | .inl e => .inl e
  | .inr a => k a
theorem nb_pr {T : Nat → Int32} {n p q : Nat} {lo hi v : Int32} (hp : p ≤ n) (h : nb T n lo hi p = .inr (v, q)) : isR v lo hi ∧ p < q ∧ q ≤ n := by
  unfold nb at h
  split at h
  · rename_i c
    cases h
    have g := sk_ge (T := T) (n := n) p
    exact ⟨⟨Int32.not_lt.mp c.2.2.1, Int32.not_lt.mp c.2.2.2⟩, by omega, rn_le (sk_le hp)⟩
  · cases h
theorem nb_e {T : Nat → Int32} {n p e : Nat} {lo hi : Int32} (hp : p ≤ n) (h : nb T n lo hi p = .inl e) : e = sk T n p ∧ e ≤ n := by
  unfold nb at h
  split at h
  · cases h
  · cases h; exact ⟨rfl, sk_le hp⟩
theorem wd_pr {T : Nat → Int32} {n k p q : Nat} (hk : k < 26) (h : wd T n k p = .inr q) : p < q ∧ q ≤ n := by
  unfold wd at h
  split at h
  · rename_i w
    cases h
    have := wrd_in hk w
    have := wl_pos hk
    have g := sk_ge (T := T) (n := n) p
    omega
  · cases h
theorem wd_e {T : Nat → Int32} {n k p e : Nat} (hp : p ≤ n) (h : wd T n k p = .inl e) : e = sk T n p ∧ e ≤ n := by
  unfold wd at h
  split at h
  · cases h
  · cases h; exact ⟨rfl, sk_le hp⟩
/-- a number read by the class -/
theorem C_nb {h h1 : mxH} {T : Nat → Int32} {n p : Nat} {lo hi x : Int32} (u : p100 lo hi h x h1) (C : Cl h T n p) : (∃ v q, nb T n lo hi p = .inr (v, q) ∧ x = v ∧ ¬ x = -1 ∧ Cl h1 T n q) ∨ (nb T n lo hi p = .inl (sk T n p) ∧ x = -1 ∧ h1 = h) := by
  rcases u.2 T n p C with ⟨c1, c2, c3, c4, e, ne, C1⟩ | ⟨c, e, eh⟩
  · refine .inl ⟨numN T n p, endN T n p, ?_, e, ne, C1⟩
    unfold nb
    exact if_pos ⟨c1, c2, c3, c4⟩
  · refine .inr ⟨?_, e, eh⟩
    unfold nb
    exact if_neg c
theorem C_wd {h h1 : mxH} {T : Nat → Int32} {n p k : Nat} {x : Int32} (hk : k < 26) (u : p96 (3 + k) h x h1) (C : Cl h T n p) : (∃ q, wd T n k p = .inr q ∧ wrd T n k p = true ∧ ¬ x = 0 ∧ q = sk T n p + wl k ∧ Cl h1 T n q) ∨ (wd T n k p = .inl (sk T n p) ∧ ¬ wrd T n k p = true ∧ x = 0 ∧ h1 = h) := by
  rcases u.2 T n p k C hk rfl with ⟨w, e, C1⟩ | ⟨w, e, eh⟩
  · refine .inl ⟨_, ?_, w, by rw [e]; decide, rfl, C1⟩
    unfold wd
    exact if_pos w
  · refine .inr ⟨?_, w, e, eh⟩
    unfold wd
    exact if_neg w
/-! rows after a line -/
def perR (r : Nat → Int32) (np : Nat) (a b c g : Int32) : Nat → Int32 := rs (rs (rs (rs (rs (rs (rs r (33 + 6 * np + 0) a) (33 + 6 * np + 1) b) (33 + 6 * np + 2) c) (33 + 6 * np + 3) g) (33 + 6 * np + 4) 0) (33 + 6 * np + 5) 0) 3 (nI (np + 1))
def stoR (r : Nat → Int32) (ns : Nat) (d l w b : Int32) : Nat → Int32 := rs (rs (rs (rs (rs (rs (rs r (69 + 6 * ns + 0) d) (69 + 6 * ns + 1) l) (69 + 6 * ns + 2) w) (69 + 6 * ns + 3) 0) (69 + 6 * ns + 4) b) (69 + 6 * ns + 5) 0) 4 (nI (ns + 1))
theorem perR_3 {r : Nat → Int32} {np : Nat} {a b c g : Int32} : perR r np a b c g 3 = nI (np + 1) := rs_at
theorem perR_f {r : Nat → Int32} {np : Nat} {a b c g : Int32} : perR r np a b c g (33 + 6 * np + 0) = a ∧ perR r np a b c g (33 + 6 * np + 1) = b ∧ perR r np a b c g (33 + 6 * np + 2) = c ∧ perR r np a b c g (33 + 6 * np + 3) = g ∧ perR r np a b c g (33 + 6 * np + 4) = 0 ∧ perR r np a b c g (33 + 6 * np + 5) = 0 := by
  unfold perR
  refine ⟨?_, ?_, ?_, ?_, ?_, ?_⟩
  · rw [rs_ne (by omega), rs_ne (by omega), rs_ne (by omega), rs_ne (by omega), rs_ne (by omega), rs_ne (by omega), rs_at]
  · rw [rs_ne (by omega), rs_ne (by omega), rs_ne (by omega), rs_ne (by omega), rs_ne (by omega), rs_at]
  · rw [rs_ne (by omega), rs_ne (by omega), rs_ne (by omega), rs_ne (by omega), rs_at]
  · rw [rs_ne (by omega), rs_ne (by omega), rs_ne (by omega), rs_at]
  · rw [rs_ne (by omega), rs_ne (by omega), rs_at]
  · rw [rs_ne (by omega), rs_at]
theorem perR_n {r : Nat → Int32} {np : Nat} {a b c g : Int32} {k : Nat} (h3 : k ≠ 3) (hk : ¬ (33 + 6 * np ≤ k ∧ k < 33 + 6 * np + 6)) : perR r np a b c g k = r k := by
  unfold perR
  rw [rs_ne h3, rs_ne (by omega), rs_ne (by omega), rs_ne (by omega), rs_ne (by omega), rs_ne (by omega), rs_ne (by omega)]
theorem stoR_4 {r : Nat → Int32} {ns : Nat} {d l w b : Int32} : stoR r ns d l w b 4 = nI (ns + 1) := rs_at
theorem stoR_f {r : Nat → Int32} {ns : Nat} {d l w b : Int32} : stoR r ns d l w b (69 + 6 * ns + 0) = d ∧ stoR r ns d l w b (69 + 6 * ns + 1) = l ∧ stoR r ns d l w b (69 + 6 * ns + 2) = w ∧ stoR r ns d l w b (69 + 6 * ns + 3) = 0 ∧ stoR r ns d l w b (69 + 6 * ns + 4) = b ∧ stoR r ns d l w b (69 + 6 * ns + 5) = 0 := by
  unfold stoR
  refine ⟨?_, ?_, ?_, ?_, ?_, ?_⟩
  · rw [rs_ne (by omega), rs_ne (by omega), rs_ne (by omega), rs_ne (by omega), rs_ne (by omega), rs_ne (by omega), rs_at]
  · rw [rs_ne (by omega), rs_ne (by omega), rs_ne (by omega), rs_ne (by omega), rs_ne (by omega), rs_at]
  · rw [rs_ne (by omega), rs_ne (by omega), rs_ne (by omega), rs_ne (by omega), rs_at]
  · rw [rs_ne (by omega), rs_ne (by omega), rs_ne (by omega), rs_at]
  · rw [rs_ne (by omega), rs_ne (by omega), rs_at]
  · rw [rs_ne (by omega), rs_at]
theorem stoR_n {r : Nat → Int32} {ns : Nat} {d l w b : Int32} {k : Nat} (h4 : k ≠ 4) (hk : ¬ (69 + 6 * ns ≤ k ∧ k < 69 + 6 * ns + 6)) : stoR r ns d l w b k = r k := by
  unfold stoR
  rw [rs_ne h4, rs_ne (by omega), rs_ne (by omega), rs_ne (by omega), rs_ne (by omega), rs_ne (by omega), rs_ne (by omega)]
section
variable {r : Nat → Int32} {v : Nat → Nat → Int32} {np ns nl : Nat}
theorem CpN_sl (C : CpN v r np ns nl) {p : Nat} (hp : p < 12) {w : Int32} (hw : isR w 0 3) : CpN (vs v 15 p w) (rs r (9 + p) w) np ns nl := by
  obtain ⟨c0, c1, c2, u, s, l⟩ := C
  refine ⟨Cp0_c (vs_ne (by omega)) (vs_ne (by omega)) (vs_ne (by omega)) (rs_ne (by omega)) (rs_ne (by omega)) (rs_ne (by omega)) c0, Cp1_c (vs_ne (by omega)) (vs_ne (by omega)) (vs_ne (by omega)) (vs_ne (by omega)) (rs_ne (by omega)) (rs_ne (by omega)) (rs_ne (by omega)) (rs_ne (by omega)) c1, fun q hq => ?_, CpU_c c0.1 (vs_ne (by omega)) (fun k x a b c => vs_ne (by omega)) (fun k a b => rs_ne (by omega)) u, CpS_c c0.2.1 (fun k z a b c => vs_ne (by omega)) (fun k a b => rs_ne (by omega)) s, CpL_c c0.2.2.1 (fun j hj => vs_ne (by omega)) (fun k a b => rs_ne (by omega)) l⟩
  obtain ⟨a1, a2, a3⟩ := c2 q hq
  rw [show vs v 15 p w 0 4 = v 0 4 from vs_ne (by omega), rs_ne (show 21 + q ≠ 9 + p by omega)]
  by_cases e : q = p
  · subst e
    rw [vs_at, rs_at]
    exact ⟨rfl, hw, a3⟩
  · rw [vs_ne (by omega), rs_ne (by omega)]
    exact ⟨a1, a2, a3⟩
theorem CpN_po (C : CpN v r np ns nl) {p : Nat} (hp : p < 12) : CpN (vs v 0 4 (v 0 4 ||| ((1 : Int32) <<< (nI p &&& 31)))) (rs r (21 + p) 1) np ns nl := by
  obtain ⟨c0, c1, c2, u, s, l⟩ := C
  refine ⟨Cp0_c (vs_ne (by omega)) (vs_ne (by omega)) (vs_ne (by omega)) (rs_ne (by omega)) (rs_ne (by omega)) (rs_ne (by omega)) c0, Cp1_c (vs_ne (by omega)) (vs_ne (by omega)) (vs_ne (by omega)) (vs_ne (by omega)) (rs_ne (by omega)) (rs_ne (by omega)) (rs_ne (by omega)) (rs_ne (by omega)) c1, fun q hq => ?_, CpU_c c0.1 (vs_ne (by omega)) (fun k x a b c => vs_ne (by omega)) (fun k a b => rs_ne (by omega)) u, CpS_c c0.2.1 (fun k z a b c => vs_ne (by omega)) (fun k a b => rs_ne (by omega)) s, CpL_c c0.2.2.1 (fun j hj => vs_ne (by omega)) (fun k a b => rs_ne (by omega)) l⟩
  obtain ⟨a1, a2, a3⟩ := c2 q hq
  rw [vs_at, rs_ne (show 9 + q ≠ 21 + p by omega), vs_ne (by omega)]
  refine ⟨a1, a2, ?_⟩
  rw [tbv _ (by omega), b_or, b_one (by omega) (by omega)]
  by_cases e : q = p
  · subst e
    rw [rs_at]; simp
  · rw [rs_ne (by omega), a3, tbv _ (by omega)]
    simp [e]
theorem CpN_li (C : CpN v r np ns nl) {w : Int32} (hw : isR w 1 99) : CpN (vs v 0 5 w) (rs r 6 w) np ns nl := by
  obtain ⟨c0, c1, c2, u, s, l⟩ := C
  refine ⟨Cp0_c (vs_ne (by omega)) (vs_ne (by omega)) (vs_ne (by omega)) (rs_ne (by omega)) (rs_ne (by omega)) (rs_ne (by omega)) c0, ?_, Cp2_c (vs_ne (by omega)) (fun p hp => vs_ne (by omega)) (fun k a b => rs_ne (by omega)) c2, CpU_c c0.1 (vs_ne (by omega)) (fun k x a b c => vs_ne (by omega)) (fun k a b => rs_ne (by omega)) u, CpS_c c0.2.1 (fun k z a b c => vs_ne (by omega)) (fun k a b => rs_ne (by omega)) s, CpL_c c0.2.2.1 (fun j hj => vs_ne (by omega)) (fun k a b => rs_ne (by omega)) l⟩
  obtain ⟨a1, a2, a3, a4, a5, a6, a7⟩ := c1
  refine ⟨?_, ?_, ?_, ?_, ?_, ?_, ?_⟩
  · rw [vs_ne (by omega), rs_ne (by omega)]; exact a1
  · rw [vs_ne (by omega), rs_ne (by omega)]; exact a2
  · rw [vs_at, rs_at]
  · rw [vs_ne (by omega), rs_ne (by omega)]; exact a4
  · rw [rs_ne (by omega)]; exact a5
  · rw [rs_ne (by omega)]; exact a6
  · rw [rs_at]; exact hw
/-- a person more -/
theorem CpN_per {v' : Nat → Nat → Int32} {a b c g : Int32} (C : CpN v r np ns nl) (h6 : np < 6) (ra : isR a 0 9999) (rb : isR b 1 60) (rc : isR c 0 11) (rg : isR g 0 11) (hv : ∀ k j, inV k j → ¬ (k = 1) → ¬ (2 ≤ k ∧ k ≤ 6 ∧ j = np) → v' k j = v k j) (e0 : v' 1 0 = nI (np + 1)) (e6 : v' 1 6 = v 1 6 &&& (((1 : Int32) <<< (nI np &&& 31)) ^^^ (-1))) (f2 : v' 2 np = a) (f3 : v' 3 np = b) (f4 : v' 4 np = c) (f5 : v' 5 np = g) (f6 : v' 6 np = 0) : CpN v' (perR r np a b c g) (np + 1) ns nl := by
  obtain ⟨⟨z1, z2, z3, z4, z5, z6, z7, z8, z9⟩, c1, c2, ⟨⟨B, hB, eB⟩, u⟩, s, l⟩ := C
  have i : ∀ k j, inV k j → ¬ (k = 1) → ¬ (2 ≤ k ∧ k ≤ 6 ∧ j = np) → v' k j = v k j := hv
  have nB : v' 1 6 = v 1 6 := by
    rw [e6, eB]
    refine b_ext (fun j hj => ?_)
    rw [bt_clr (by omega) hj, bt_nI hj]
    by_cases q : j = np
    · subst q
      rw [Nat.testBit_lt_two_pow hB]; rfl
    · simp [q]
  have off : ∀ k, k ≠ 3 → ¬ (33 + 6 * np ≤ k ∧ k < 33 + 6 * np + 6) → perR r np a b c g k = r k := fun k => perR_n
  refine ⟨⟨by omega, z2, z3, perR_3, by rw [off 4 (by omega) (by omega)]; exact z5, by rw [off 7 (by omega) (by omega)]; exact z6, e0, by rw [i 7 0 (by unfold inV; omega) (by omega) (by omega)]; exact z8, by rw [i 13 0 (by unfold inV; omega) (by omega) (by omega)]; exact z9⟩, Cp1_c (i 0 5 (by unfold inV; omega) (by omega) (by omega)) (i 0 6 (by unfold inV; omega) (by omega) (by omega)) (i 0 7 (by unfold inV; omega) (by omega) (by omega)) (i 0 8 (by unfold inV; omega) (by omega) (by omega)) (off 0 (by omega) (by omega)) (off 5 (by omega) (by omega)) (off 6 (by omega) (by omega)) (off 8 (by omega) (by omega)) c1, Cp2_c (i 0 4 (by unfold inV; omega) (by omega) (by omega)) (fun p hp => i 15 p (by unfold inV; omega) (by omega) (by omega)) (fun k x y => off k (by omega) (by omega)) c2, ⟨⟨B, Nat.lt_of_lt_of_le hB (Nat.pow_le_pow_right (by decide) (by omega)), nB.trans eB⟩, fun y hy => ?_⟩, fun z hz => ?_, CpL_c z3 (fun j hj => i 14 j (by unfold inV; omega) (by omega) (by omega)) (fun k x y => off k (by omega) (by omega)) l⟩
  · by_cases q : y = np
    · subst q
      obtain ⟨p0, p1, p2, p3, p4, p5⟩ := perR_f (r := r) (np := y) (a := a) (b := b) (c := c) (g := g)
      rw [p0, p1, p2, p3, p4, p5, f2, f3, f4, f5, f6, nB, eB]
      refine ⟨rfl, rfl, rfl, rfl, rfl, ?_, ra, rb, rc, rg, ⟨by decide, by decide⟩⟩
      rw [tbv _ (by omega), bt_nI (by omega), Nat.testBit_lt_two_pow hB]; rfl
    · have hy : y < np := by omega
      have uy := u y hy
      rw [i 2 y (by unfold inV; omega) (by omega) (by omega), i 3 y (by unfold inV; omega) (by omega) (by omega), i 4 y (by unfold inV; omega) (by omega) (by omega), i 5 y (by unfold inV; omega) (by omega) (by omega), i 6 y (by unfold inV; omega) (by omega) (by omega), nB, off (33 + 6 * y + 0) (by omega) (by omega), off (33 + 6 * y + 1) (by omega) (by omega), off (33 + 6 * y + 2) (by omega) (by omega), off (33 + 6 * y + 3) (by omega) (by omega), off (33 + 6 * y + 4) (by omega) (by omega), off (33 + 6 * y + 5) (by omega) (by omega)]
      exact uy
  · have sz := s z hz
    have up : ∀ x : Int32, isI x (nI np) → isI x (nI (np + 1)) := fun x q => ⟨q.1, by
      have := q.2
      have := nI_lt (show np < np + 1 by omega) (by omega)
      grind⟩
    rw [i 8 z (by unfold inV; omega) (by omega) (by omega), i 9 z (by unfold inV; omega) (by omega) (by omega), i 10 z (by unfold inV; omega) (by omega) (by omega), i 11 z (by unfold inV; omega) (by omega) (by omega), i 12 z (by unfold inV; omega) (by omega) (by omega), off (69 + 6 * z + 0) (by omega) (by omega), off (69 + 6 * z + 1) (by omega) (by omega), off (69 + 6 * z + 2) (by omega) (by omega), off (69 + 6 * z + 3) (by omega) (by omega), off (69 + 6 * z + 4) (by omega) (by omega), off (69 + 6 * z + 5) (by omega) (by omega)]
    obtain ⟨s0, s1, s2, s3, s4, s5, s6, s7, s8, s9, s10, s11⟩ := sz
    exact ⟨s0, s1, s2, s3, s4, s5, up _ s6, up _ s7, s8, s9, up _ s10, s11⟩
/-- a stone more -/
theorem CpN_sto {v' : Nat → Nat → Int32} {d l w b : Int32} (C : CpN v r np ns nl) (h10 : ns < 10) (rd : isI d (nI np)) (rl : isI l (nI np)) (rw_ : isR w 1 40) (rb : isI b (nI np)) (hv : ∀ k j, inV k j → ¬ (k = 7 ∧ j = 0) → ¬ (8 ≤ k ∧ k ≤ 12 ∧ j = ns) → v' k j = v k j) (e7 : v' 7 0 = nI (ns + 1)) (f8 : v' 8 ns = d) (f9 : v' 9 ns = l) (f10 : v' 10 ns = w) (f11 : v' 11 ns = 0) (f12 : v' 12 ns = b) : CpN v' (stoR r ns d l w b) np (ns + 1) nl := by
  obtain ⟨p0, p1, p2, p3, p4, p5⟩ := stoR_f (r := r) (ns := ns) (d := d) (l := l) (w := w) (b := b)
  refine CpN_add C h10 hv (fun k k1 k2 k3 k4 k5 => stoR_n k4 k5) e7 stoR_4 ?_
  rw [p0, p1, p2, p3, p4, p5]
  exact ⟨f8, f9, f10, f11, fun _ => f12, fun q => absurd q (by decide), rd, rl, rw_, ⟨by decide, by decide⟩, rb, fun q => absurd q (by decide)⟩
end
abbrev VR : Type := Sum Nat ((Nat → Int32) × Nat × Nat × Nat)
def vSlo (T : Nat → Int32) (n : Nat) (r : Nat → Int32) (np ns p : Nat) : VR := bnd (nb T n 0 11 p) (fun x => bnd (nb T n 0 3 x.2) (fun y => .inr (rs r (9 + x.1.toNatClampNeg) y.1, np, ns, y.2)))
def vPor (T : Nat → Int32) (n : Nat) (r : Nat → Int32) (np ns p : Nat) : VR := bnd (nb T n 0 11 p) (fun x => .inr (rs r (21 + x.1.toNatClampNeg) 1, np, ns, x.2))
def vTel (T : Nat → Int32) (n : Nat) (r : Nat → Int32) (np ns k : Nat) (lo hi : Int32) (p : Nat) : VR := bnd (nb T n lo hi p) (fun x => .inr (rs r k x.1, np, ns, x.2))
def vLim (T : Nat → Int32) (n : Nat) (r : Nat → Int32) (np ns p : Nat) : VR := vTel T n r np ns 6 1 99 p
def vHou (T : Nat → Int32) (n : Nat) (r : Nat → Int32) (np ns p : Nat) : VR := vTel T n r np ns 5 0 999 p
/-- the class at a line -/
def frV (a : Nat) (h h1 : mxH) : Prop := mxU (fun c => c = 101 ∨ (a ≤ c ∧ c ≤ a + 15)) h h1 ∧ ∀ j, j ≠ 3 → mx_i h1 101 j = mx_i h 101 j
theorem frV_mv {a : Nat} {h h1 : mxH} (u : mvC h h1) : frV a h h1 := by
  obtain ⟨v, rfl⟩ := u
  exact ⟨mxU_wi (.inl rfl), fun j hj => wi_nj hj⟩
theorem frV_tr {a : Nat} {h h1 h2 : mxH} (u : frV a h h1) (w : frV a h1 h2) : frV a h h2 := ⟨mxU_tr u.1 w.1, fun j hj => (w.2 j hj).trans (u.2 j hj)⟩
theorem frV_rfl {a : Nat} {h : mxH} : frV a h h := ⟨mxU_rfl, fun _ _ => rfl⟩
theorem frV_wi {a c k : Nat} {h : mxH} {v : Int32} (hc : a ≤ c ∧ c ≤ a + 15) (ha : 101 < a) : frV a h (mx_wi h c k v) := ⟨mxU_wi (.inr hc), fun j _ => by rw [wi_ne (by omega)]⟩
theorem CpN_mv {a np ns nl : Nat} {h h1 : mxH} {r : Nat → Int32} (ha : 101 < a) (u : mvC h h1) (C : CpN (vw h a) r np ns nl) : CpN (vw h1 a) r np ns nl := by
  obtain ⟨v, rfl⟩ := u
  exact CpN_U (P := fun c => c = 101) (mxU_wi rfl) (fun k hk q => by omega) C
theorem Cl_va {a c k n p : Nat} {h : mxH} {T : Nat → Int32} {v : Int32} (hc : 106 < c) (C : Cl h T n p) : Cl (mx_wi h c k v) T n p := Cl_U (P := fun b => b = c) (mxU_wi rfl) (fun b _ _ => by omega) C
def outV (a : Nat) (T : Nat → Int32) (n nl : Nat) (res : VR) (x : Int32) (h1 : mxH) : Prop := match res with
  | .inl e => x = 0 ∧ ∃ p, Cl h1 T n p ∧ sk T n p = e
  | .inr (r', np', ns', q) => x = 1 ∧ Cl h1 T n q ∧ q ≤ n ∧ CpN (vw h1 a) r' np' ns' nl
abbrev A28 : Type := (Nat → Int32) × Nat × Nat × (Nat → Int32) × Nat × Nat × Nat
def P28 (h : mxH) (a : Nat) (q : A28) : Prop := Cl h q.1 q.2.1 q.2.2.1 ∧ q.2.2.1 ≤ q.2.1 ∧ CpN (vw h a) q.2.2.2.1 q.2.2.2.2.1 q.2.2.2.2.2.1 q.2.2.2.2.2.2
def okV (h : mxH) (a : Nat) : Prop := ∃ q, P28 h a q
def pV (f : (Nat → Int32) → Nat → (Nat → Int32) → Nat → Nat → Nat → VR) (a : Nat) (h : mxH) (x : Int32) (h1 : mxH) : Prop := frV a h h1 ∧ ∀ T n p r np ns nl, Cl h T n p → p ≤ n → CpN (vw h a) r np ns nl → outV a T n nl (f T n r np ns p) x h1
theorem pV_of {f : (Nat → Int32) → Nat → (Nat → Int32) → Nat → Nat → Nat → VR} {a d y : Nat} {ls : mxLs} {h : mxH} {Q : mxO → mxH → Prop} (ok : okV h a) (k : ∀ x h1, pV f a h x h1 → Q (.inl (some (.int x))) h1) (H : ∀ T n p r np ns nl, Cl h T n p → p ≤ n → CpN (vw h a) r np ns nl → ∀ Q' : mxO → mxH → Prop, (∀ x h1, frV a h h1 → outV a T n nl (f T n r np ns p) x h1 → Q' (.inl (some (.int x))) h1) → mx_wp d y 0 ls [] h Q') : mx_wp d y 0 ls [] h Q := by
  refine all_mut (F := frV a h) (R := fun q x h1 => outV a q.1 q.2.1 q.2.2.2.2.2.2 (f q.1 q.2.1 q.2.2.2.1 q.2.2.2.2.1 q.2.2.2.2.2.1 q.2.2.1) x h1) ok (fun q pq => ?_) (fun x h1 f r => k x h1 ⟨f, fun T n p r' np ns nl a1 a2 a3 => by
    have z := r (T, n, p, r', np, ns, nl) ⟨a1, a2, a3⟩
    dsimp only at z
    exact z⟩)
  obtain ⟨T, n, p, r, np, ns, nl⟩ := q
  exact H T n p r np ns nl pq.1 pq.2.1 pq.2.2 _ (fun x h1 a b => ⟨x, rfl, a, b⟩)
theorem va_gt {a : Nat} (hVa : (mxT a).1 = 9) : 118 < a := by have := mxT9' hVa; omega
theorem sp_127 {d : Nat} {h : mxH} {Q : mxO → mxH → Prop} {a : Nat} (G : mxG h) (hVa : (mxT a).1 = 9) (ok : okV h a) (k : ∀ x h1, pV vSlo a h x h1 → Q (.inl (some (.int x))) h1) : mx_wp (d + 2) 127 0 (mx_fr 127 [.ref 101, .ref a]) [] h Q := by
  have ga := va_gt hVa
  refine pV_of ok k (fun T n p r np ns nl C hp V Q fin => ?_)
  unfold vSlo at fin
  refine tr_127_0 G hVa ⟨⟨T, n, p, C⟩, fun x2 h3 u3 => ?_⟩
  rcases C_nb u3 C with ⟨v, q, e, ex, ne, C3⟩ | ⟨e, ex, eh⟩
  · rw [e] at fin
    obtain ⟨rv, hq1, hq⟩ := nb_pr hp e
    refine ⟨fun c => absurd c ne, fun _ => ⟨⟨T, n, q, C3⟩, fun x8 h9 u9 => ?_⟩⟩
    rcases C_nb u9 C3 with ⟨v2, q2, e2, ex2, ne2, C9⟩ | ⟨e2, ex2, eh2⟩
    · have fin := fun x h1 f => fin x h1 f
      simp only [bnd, e2] at fin
      obtain ⟨rv2, hq3, hq2⟩ := nb_pr hq e2
      obtain ⟨m, hm, em⟩ := isR_N (B := 11) (by decide) rv
      refine ⟨fun c => absurd c ne2, fun _ => ⟨by rw [ex, em]; exact vp_in_nI (by omega) (by decide), fun h14 e14 => ?_⟩⟩
      rw [ex, em, nI_clamp (by omega), ex2] at e14
      rw [em, nI_clamp (by omega)] at fin
      have V9 := CpN_mv (by omega) u9.1 (CpN_mv (by omega) u3.1 V)
      refine fin _ _ (frV_tr (frV_tr (frV_mv u3.1) (frV_mv u9.1)) (by rw [e14]; exact frV_wi (by omega) (by omega))) ⟨rfl, by rw [e14]; exact Cl_va (a := a) (by omega) C9, hq2, ?_⟩
      rw [e14, vw_wi]
      exact CpN_sl V9 (by omega) rv2
    · have fin := fun x h1 f => fin x h1 f
      simp only [bnd, e2] at fin
      refine ⟨fun _ => fin _ _ (by rw [eh2]; exact frV_mv u3.1) ⟨rfl, q, by rw [eh2]; exact C3, rfl⟩, fun c => absurd ex2 c⟩
  · simp only [bnd, e] at fin
    refine ⟨fun _ => fin _ _ (by rw [eh]; exact frV_rfl) ⟨rfl, p, by rw [eh]; exact C, rfl⟩, fun c => absurd ex c⟩
theorem sp_128 {d : Nat} {h : mxH} {Q : mxO → mxH → Prop} {a : Nat} (G : mxG h) (hVa : (mxT a).1 = 9) (ok : okV h a) (k : ∀ x h1, pV vPor a h x h1 → Q (.inl (some (.int x))) h1) : mx_wp (d + 2) 128 0 (mx_fr 128 [.ref 101, .ref a]) [] h Q := by
  have ga := va_gt hVa
  refine pV_of ok k (fun T n p r np ns nl C hp V Q fin => ?_)
  unfold vPor at fin
  refine tr_128_0 G hVa ⟨⟨T, n, p, C⟩, fun x2 h3 u3 => ?_⟩
  rcases C_nb u3 C with ⟨v, q, e, ex, ne, C3⟩ | ⟨e, ex, eh⟩
  · simp only [bnd, e] at fin
    obtain ⟨rv, hq1, hq⟩ := nb_pr hp e
    obtain ⟨m, hm, em⟩ := isR_N (B := 11) (by decide) rv
    refine ⟨fun c => absurd c ne, fun _ h7 e7 => ?_⟩
    rw [ex, em] at e7
    rw [em, nI_clamp (by omega)] at fin
    have V3 := CpN_mv (by omega) u3.1 V
    refine fin _ _ (frV_tr (frV_mv u3.1) (by rw [e7]; exact frV_wi (by omega) (by omega))) ⟨rfl, by rw [e7]; exact Cl_va (a := a) (by omega) C3, hq, ?_⟩
    have := vw_wi (h := h3) (a := a) (k := 0) (j := 4) (w := (mx_i h3 a 4) ||| ((1 : Int32) <<< (nI m &&& 31)))
    rw [show a + 0 = a from rfl, ← e7] at this
    rw [this]
    exact CpN_po V3 (by omega)
  · simp only [bnd, e] at fin
    refine ⟨fun _ => fin _ _ (by rw [eh]; exact frV_rfl) ⟨rfl, p, by rw [eh]; exact C, rfl⟩, fun c => absurd ex c⟩
theorem sp_129 {d : Nat} {h : mxH} {Q : mxO → mxH → Prop} {a : Nat} (G : mxG h) (hVa : (mxT a).1 = 9) (ok : okV h a) (k : ∀ x h1, pV vLim a h x h1 → Q (.inl (some (.int x))) h1) : mx_wp (d + 2) 129 0 (mx_fr 129 [.ref 101, .ref a]) [] h Q := by
  have ga := va_gt hVa
  refine pV_of ok k (fun T n p r np ns nl C hp V Q fin => ?_)
  unfold vLim vTel at fin
  refine tr_129_0 G hVa ⟨⟨T, n, p, C⟩, fun x2 h3 u3 => ?_⟩
  rcases C_nb u3 C with ⟨v, q, e, ex, ne, C3⟩ | ⟨e, ex, eh⟩
  · simp only [bnd, e] at fin
    obtain ⟨rv, hq1, hq⟩ := nb_pr hp e
    refine ⟨fun c => absurd c ne, fun _ h7 e7 => ?_⟩
    rw [ex] at e7
    have V3 := CpN_mv (by omega) u3.1 V
    refine fin _ _ (frV_tr (frV_mv u3.1) (by rw [e7]; exact frV_wi (by omega) (by omega))) ⟨rfl, by rw [e7]; exact Cl_va (a := a) (by omega) C3, hq, ?_⟩
    have := vw_wi (h := h3) (a := a) (k := 0) (j := 5) (w := v)
    rw [show a + 0 = a from rfl, ← e7] at this
    rw [this]
    exact CpN_li V3 rv
  · simp only [bnd, e] at fin
    refine ⟨fun _ => fin _ _ (by rw [eh]; exact frV_rfl) ⟨rfl, p, by rw [eh]; exact C, rfl⟩, fun c => absurd ex c⟩
theorem sp_130 {d : Nat} {h : mxH} {Q : mxO → mxH → Prop} {a : Nat} (G : mxG h) (hVa : (mxT a).1 = 9) (ok : okV h a) (k : ∀ x h1, pV vHou a h x h1 → Q (.inl (some (.int x))) h1) : mx_wp (d + 2) 130 0 (mx_fr 130 [.ref 101, .ref a]) [] h Q := by
  have ga := va_gt hVa
  refine pV_of ok k (fun T n p r np ns nl C hp V Q fin => ?_)
  unfold vHou vTel at fin
  refine tr_130_0 G hVa ⟨⟨T, n, p, C⟩, fun x2 h3 u3 => ?_⟩
  rcases C_nb u3 C with ⟨v, q, e, ex, ne, C3⟩ | ⟨e, ex, eh⟩
  · simp only [bnd, e] at fin
    obtain ⟨rv, hq1, hq⟩ := nb_pr hp e
    refine ⟨fun c => absurd c ne, fun _ h7 e7 => ?_⟩
    rw [ex] at e7
    have V3 := CpN_mv (by omega) u3.1 V
    refine fin _ _ (frV_tr (frV_mv u3.1) (by rw [e7]; exact frV_wi (by omega) (by omega))) ⟨rfl, by rw [e7]; exact Cl_va (a := a) (by omega) C3, hq, ?_⟩
    have := vw_wi (h := h3) (a := a) (k := 0) (j := 6) (w := v)
    rw [show a + 0 = a from rfl, ← e7] at this
    rw [this]
    exact CpN_hr V3 ⟨rv.1, Int32.le_trans rv.2 (by decide)⟩
  · simp only [bnd, e] at fin
    refine ⟨fun _ => fin _ _ (by rw [eh]; exact frV_rfl) ⟨rfl, p, by rw [eh]; exact C, rfl⟩, fun c => absurd ex c⟩
/-! a person is added (the class) -/
def adP (a : Nat) (i1 i2 i3 i4 : Int32) (h h1 : mxH) : Prop := mxU (fun b => a + 1 ≤ b ∧ b ≤ a + 6) h h1 ∧ ∀ n, n < 6 → mx_i h (a + 1) 0 = nI n → mx_i h1 (a + 1) 0 = nI (n + 1) ∧ mx_i h1 (a + 1) 6 = mx_i h (a + 1) 6 &&& (((1 : Int32) <<< (nI n &&& 31)) ^^^ (-1)) ∧ (∀ j, mx_i h1 (a + 2) j = if j = n then i1 else mx_i h (a + 2) j) ∧ (∀ j, mx_i h1 (a + 3) j = if j = n then i2 else mx_i h (a + 3) j) ∧ (∀ j, mx_i h1 (a + 4) j = if j = n then i3 else mx_i h (a + 4) j) ∧ (∀ j, mx_i h1 (a + 5) j = if j = n then i4 else mx_i h (a + 5) j) ∧ (∀ j, mx_i h1 (a + 6) j = if j = n then 0 else mx_i h (a + 6) j)
theorem spn_45 {d : Nat} {h : mxH} {Q : mxO → mxH → Prop} {a : Nat} {i1 i2 i3 i4 : Int32} (G : mxG h) (hVa : (mxT a).1 = 9) (x0 : cB (mx_i h (a + 1) 0) 6) (k : ∀ h1, adP a i1 i2 i3 i4 h h1 → Q (.inl none) h1) : mx_wp (d + 1) 45 0 (mx_fr 45 [.ref (a + 1), .int i1, .int i2, .int i3, .int i4]) [] h Q := by
  obtain ⟨n, hn, e0⟩ := x0
  have v6 : n < 6 → vp_in (nI n) 6 := fun q => vp_in_nI q (by decide)
  refine tr_45_0 G hVa ⟨fun c => ?_, fun c => k h ⟨mxU_rfl, fun m hm em => absurd ?_ c⟩⟩
  · rw [e0] at c ⊢
    have n6 : n < 6 := (nI_ltI (b := 6) (by omega) (by decide)).mp c
    have nc : (nI n).toNatClampNeg = n := nI_clamp (by omega)
    rw [nc]
    refine ⟨v6 n6, fun h3 e3 => ?_⟩
    have c3 : mx_i h3 (a + 1) = mx_i h (a + 1) := by rw [e3]; exact wi_ne (by omega)
    rw [c3, e0, nc]
    refine ⟨v6 n6, fun h7 e7 => ?_⟩
    have c7 : mx_i h7 (a + 1) = mx_i h (a + 1) := by rw [e7]; exact (wi_ne (by omega)).trans c3
    rw [c7, e0, nc]
    refine ⟨v6 n6, fun h11 e11 => ?_⟩
    have c11 : mx_i h11 (a + 1) = mx_i h (a + 1) := by rw [e11]; exact (wi_ne (by omega)).trans c7
    rw [c11, e0, nc]
    refine ⟨v6 n6, fun h15 e15 => ?_⟩
    have c15 : mx_i h15 (a + 1) = mx_i h (a + 1) := by rw [e15]; exact (wi_ne (by omega)).trans c11
    rw [c15, e0, nc]
    refine ⟨v6 n6, fun h19 e19 h22 e22 h26 e26 => ?_⟩
    have c19 : mx_i h19 (a + 1) = mx_i h (a + 1) := by rw [e19]; exact (wi_ne (by omega)).trans c15
    unfold W_51 at e22
    rw [c19, e0] at e22
    have c22 : mx_i h22 (a + 1) 0 = nI n := by rw [e22, wi_nj (by decide), c19]; exact e0
    rw [c22, nI_1] at e26
    refine k h26 ⟨?_, fun m hm em => ?_⟩
    · rw [e26, e22, e19, e15, e11, e7, e3]
      exact mxU_tr (mxU_tr (mxU_tr (mxU_tr (mxU_tr (mxU_tr (mxU_wi (by omega)) (mxU_wi (by omega))) (mxU_wi (by omega))) (mxU_wi (by omega))) (mxU_wi (by omega))) (mxU_wi (by omega))) (mxU_wi (by omega))
    · have mn' : m = n := (nI_eq (by omega) (by omega)).mp (em.symm.trans e0)
      subst mn'
      refine ⟨?_, ?_, fun j => ?_, fun j => ?_, fun j => ?_, fun j => ?_, fun j => ?_⟩
      · rw [e26, wi_at rfl rfl]
      · rw [e26, wi_nj (by decide), e22, wi_at rfl rfl]
      · rw [e26, wi_ne (by omega), e22, wi_ne (by omega), e19, wi_ne (by omega), e15, wi_ne (by omega), e11, wi_ne (by omega), e7, wi_ne (by omega), e3, wi_row]
      · rw [e26, wi_ne (by omega), e22, wi_ne (by omega), e19, wi_ne (by omega), e15, wi_ne (by omega), e11, wi_ne (by omega), e7, wi_row, e3, wi_ne (by omega)]
      · rw [e26, wi_ne (by omega), e22, wi_ne (by omega), e19, wi_ne (by omega), e15, wi_ne (by omega), e11, wi_row, e7, wi_ne (by omega), e3, wi_ne (by omega)]
      · rw [e26, wi_ne (by omega), e22, wi_ne (by omega), e19, wi_ne (by omega), e15, wi_row, e11, wi_ne (by omega), e7, wi_ne (by omega), e3, wi_ne (by omega)]
      · rw [e26, wi_ne (by omega), e22, wi_ne (by omega), e19, wi_row, e15, wi_ne (by omega), e11, wi_ne (by omega), e7, wi_ne (by omega), e3, wi_ne (by omega)]
  · rw [em]; exact nI_lt (b := 6) hm (by decide)
/-! a person's number, but one (the class) -/
def nbx (T : Nat → Int32) (n np : Nat) (one : Int32) (p : Nat) : Sum Nat (Int32 × Nat) := bnd (nb T n 0 (nI np - 1) p) (fun x => if x.1 = one then .inl (sk T n p) else .inr x)
def p126 (i0 : Int32) (a : Nat) (h : mxH) (x : Int32) (h1 : mxH) : Prop := mvC h h1 ∧ ∀ T n p np, Cl h T n p → mx_i h (a + 1) 0 = nI np → (∃ v q, nbx T n np i0 p = .inr (v, q) ∧ x = v ∧ ¬ x = -1 ∧ Cl h1 T n q) ∨ (nbx T n np i0 p = .inl (sk T n p) ∧ x = -1 ∧ h1 = h)
theorem sp_126 {d : Nat} {h : mxH} {Q : mxO → mxH → Prop} {i0 : Int32} {a : Nat} (G : mxG h) (hVa : (mxT a).1 = 9) (ok : okC h) (k : ∀ x h1, p126 i0 a h x h1 → Q (.inl (some (.int x))) h1) : mx_wp (d + 2) 126 0 (mx_fr 126 [.int i0, .ref 101, .ref a]) [] h Q := by
  obtain ⟨T0, n0, p0, C0⟩ := ok
  refine tr_126_0 G hVa ⟨Cl_ok C0, fun c => k _ _ ⟨mvC_rfl, fun T n p np C en => .inr ⟨?_, rfl, rfl⟩⟩, fun c => ⟨⟨T0, n0, p0, C0⟩, fun x4 h5 u5 => k _ _ ⟨u5.1, fun T n p np C en => ?_⟩⟩⟩
  · unfold nbx
    match e : nb T n 0 (nI np - 1) p with
    | .inl e' => simp only [bnd]; rw [(show e' = sk T n p from by unfold nb at e; split at e <;> cases e; rfl)]
    | .inr (v, q) =>
      simp only [bnd]
      have ev : v = i0 := by
        rw [V99_i C] at c
        unfold nb at e
        split at e
        · rename_i z
          rw [if_pos ⟨z.1, z.2.1⟩] at c
          cases e
          exact c
        · cases e
      rw [if_pos ev]
  · rw [en] at u5
    unfold nbx
    rcases C_nb u5 C with ⟨v, q, e, ex, ne, C5⟩ | ⟨e, ex, eh⟩
    · refine .inl ⟨v, q, ?_, ex, ne, C5⟩
      rw [e]
      simp only [bnd]
      have ev : ¬ v = i0 := by
        intro q'
        rw [V99_i C] at c
        unfold nb at e
        split at e
        · rename_i z
          rw [if_pos ⟨z.1, z.2.1⟩] at c
          cases e
          exact c q'
        · cases e
      rw [if_neg ev]
    · refine .inr ⟨?_, ex, eh⟩
      rw [e]; rfl
