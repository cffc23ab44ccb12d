/-! SHARE: sets as numbers -/
theorem sbm_le : ∀ (p z t : Nat), 0 < p → p &&& z = p → t &&& z = t → t < p → t ≤ (p - 1) &&& z := by
  intro p
  induction p using Nat.strongRecOn with
  | _ p ih =>
    intro z t hp hz ht h
    have a1 : (p / 2) &&& (z / 2) = p / 2 := by rw [← Nat.and_div_two, hz]
    have a2 : (t / 2) &&& (z / 2) = t / 2 := by rw [← Nat.and_div_two, ht]
    have d2 : ((p - 1) &&& z) / 2 = ((p - 1) / 2) &&& (z / 2) := Nat.and_div_two
    by_cases c : p % 2 = 1
    · have e : (p - 1) / 2 = p / 2 := by omega
      rw [e, a1] at d2
      have := Nat.div_add_mod ((p - 1) &&& z) 2
      omega
    · have e : (p - 1) / 2 = p / 2 - 1 := by omega
      rw [e] at d2
      have i := ih (p / 2) (by omega) (z / 2) (t / 2) (by omega) a1 a2 (by omega)
      have m1 : t % 2 ≤ ((p - 1) &&& z) % 2 := by
        by_cases q : t % 2 = 1
        · have tz : t % 2 = 1 ∧ z % 2 = 1 := by
            have := ht ▸ q
            rw [Nat.and_mod_two_eq_one] at this
            exact this
          have : ((p - 1) &&& z) % 2 = 1 := Nat.and_mod_two_eq_one.mpr ⟨by omega, tz.2⟩
          omega
        · omega
      have := Nat.div_add_mod ((p - 1) &&& z) 2
      have := Nat.div_add_mod t 2
      omega
theorem nI_and {a b : Nat} : nI a &&& nI b = nI (a &&& b) := by
  apply b_ext
  intro i hi
  rw [b_and, bt_nI hi, bt_nI hi, bt_nI hi, Nat.testBit_and]
theorem nI_dif {a b : Nat} (hb : b < 1024) : nI b &&& (nI a ^^^ (-1)) = nI (b &&& (1023 ^^^ a)) := by
  apply b_ext
  intro i hi
  rw [b_and, b_xor, b_m1 i hi, bt_nI hi, bt_nI hi, bt_nI hi, Nat.testBit_and, Nat.testBit_xor]
  by_cases c : i < 10
  · have : Nat.testBit 1023 i = true := (by decide : ∀ i : Fin 10, Nat.testBit 1023 i = true) ⟨i, c⟩
    rw [this]
    cases a.testBit i <;> cases b.testBit i <;> rfl
  · have : b.testBit i = false := Nat.testBit_lt_two_pow (Nat.lt_of_lt_of_le hb (Nat.pow_le_pow_right (n := 2) (i := 10) (by decide) (by omega)))
    rw [this]; rfl
/-- p is a part of z -/
def prt (p z : Nat) : Prop := p &&& z = p
theorem prt_iff {p z : Nat} (hp : p < 1024) : prt p z ↔ ∀ i, i < 10 → p.testBit i = true → z.testBit i = true := by
  unfold prt
  constructor
  · intro h i _ q
    have := congrArg (fun x => Nat.testBit x i) h
    simp only [Nat.testBit_and, q, Bool.true_and] at this
    exact this
  · intro h
    apply Nat.eq_of_testBit_eq
    intro i
    rw [Nat.testBit_and]
    by_cases c : i < 10
    · cases q : p.testBit i with
      | false => rfl
      | true => rw [h i c q]; rfl
    · rw [Nat.testBit_lt_two_pow (Nat.lt_of_lt_of_le hp (Nat.pow_le_pow_right (n := 2) (i := 10) (by decide) (by omega)))]; rfl
theorem nI_prt {p z : Nat} (hp : p < 1024) : (nI p &&& (nI z ^^^ (-1)) = 0) ↔ prt p z := by
  rw [nI_dif hp, prt_iff hp]
  have hlt : p &&& (1023 ^^^ z) < 1024 := Nat.lt_of_le_of_lt Nat.and_le_left hp
  constructor
  · intro h i hi q
    have h0 := (nI_eq (b := 0) (by omega) (by decide)).mp h
    have := congrArg (fun x => Nat.testBit x i) h0
    simp only [Nat.testBit_and, Nat.testBit_xor, q, Bool.true_and, Nat.zero_testBit, (by decide : ∀ i : Fin 10, Nat.testBit 1023 i = true) ⟨i, hi⟩] at this
    cases hz : z.testBit i with
    | true => rfl
    | false => rw [hz] at this; exact absurd this (by decide)
  · intro h
    have : p &&& (1023 ^^^ z) = 0 := by
      apply Nat.eq_of_testBit_eq
      intro i
      rw [Nat.testBit_and, Nat.testBit_xor, Nat.zero_testBit]
      by_cases c : i < 10
      · cases q : p.testBit i with
        | false => rfl
        | true => rw [h i c q, (by decide : ∀ i : Fin 10, Nat.testBit 1023 i = true) ⟨i, c⟩]; rfl
      · rw [Nat.testBit_lt_two_pow (Nat.lt_of_lt_of_le hp (Nat.pow_le_pow_right (n := 2) (i := 10) (by decide) (by omega)))]; rfl
    rw [this]; rfl
theorem dif_bit {x p i : Nat} (hi : i < 10) : (x &&& (1023 ^^^ p)).testBit i = (x.testBit i && !p.testBit i) := by
  rw [Nat.testBit_and, Nat.testBit_xor, (by decide : ∀ i : Fin 10, Nat.testBit 1023 i = true) ⟨i, hi⟩]
  cases x.testBit i <;> cases p.testBit i <;> rfl
theorem dif_lt {x p : Nat} (hx : x < 1024) (hp : 0 < p) (h : prt p x) : (x &&& (1023 ^^^ p)) < x := by
  refine Nat.lt_of_le_of_ne Nat.and_le_left (fun e => ?_)
  have hp10 : p < 1024 := Nat.lt_of_le_of_lt (by rw [← h]; exact Nat.and_le_right) hx
  have : p = 0 := by
    apply Nat.eq_of_testBit_eq
    intro i
    rw [Nat.zero_testBit]
    by_cases c : i < 10
    · cases q : p.testBit i with
      | false => rfl
      | true =>
        have := congrArg (fun y => Nat.testBit y i) e
        simp only [dif_bit c, q, (prt_iff hp10).mp h i c q] at this
        exact absurd this (by decide)
    · rw [Nat.testBit_lt_two_pow (Nat.lt_of_lt_of_le hp10 (Nat.pow_le_pow_right (n := 2) (i := 10) (by decide) (by omega)))]
  omega
/-- weights of the stones of a row -/
def wR (r : Nat → Int32) (ns z : Nat) : Nat := if z < ns then (r (69 + 6 * z + 2)).toNatClampNeg else 0
theorem wR_e {v : Nat → Nat → Int32} {r : Nat → Int32} {np ns nl z : Nat} (C : CpN v r np ns nl) (hz : z < ns) : r (69 + 6 * z + 2) = nI (wR r ns z) ∧ wR r ns z ≤ 40 := by
  have q := (C.2.2.2.2.1 z hz).2.2.2.2.2.2.2.2.1
  obtain ⟨m, hm, e⟩ := isR_nI (m := 40) (by decide) (isR_lo q (by decide))
  unfold wR
  rw [if_pos hz, e, nI_clamp (by omega)]
  exact ⟨rfl, hm⟩
theorem suN_bd {f : Nat → Nat} {B : Nat} (h : ∀ z, f z ≤ B) : ∀ n, suN f n ≤ n * B := by
  intro n
  induction n with
  | zero => exact Nat.zero_le _
  | succ n ih =>
    show suN f n + f n ≤ (n + 1) * B
    rw [Nat.succ_mul]
    have := h n
    omega
theorem wt_e {v : Nat → Nat → Int32} {r : Nat → Int32} {np ns nl x : Nat} (C : CpN v r np ns nl) (hx : x < 1024) : V_204 r (nI x) = nI (wS (wR r ns) x.testBit) ∧ wS (wR r ns) x.testBit ≤ 400 := by
  have n10 := C_ns10 C
  have wb : ∀ z, wR r ns z ≤ 40 := by
    intro z
    by_cases c : z < ns
    · exact (wR_e C c).2
    · unfold wR; rw [if_neg c]; omega
  refine ⟨?_, ?_⟩
  · rw [md_204 (C_ns C) n10]
    have : ∀ n, n ≤ 10 → n ≤ ns → smS n (fun z => if bt (nI x) z = true then r (69 + 6 * z + 2) else 0) = nI (suN (fun z => if x.testBit z = true then wR r ns z else 0) n) := by
      intro n
      induction n with
      | zero => intro _ _; rfl
      | succ n ih =>
        intro h1 h2
        show smS n _ + (if bt (nI x) n = true then r (69 + 6 * n + 2) else 0) = nI (suN _ n + _)
        rw [ih (by omega) (by omega), bt_nI (by omega), ← nI_add]
        congr 1
        dsimp only
        by_cases c : x.testBit n = true
        · rw [if_pos c, if_pos c]; exact (wR_e C (by omega)).1
        · rw [if_neg c, if_neg c]; rfl
    rw [this ns n10 (Nat.le_refl _)]
    congr 1
    unfold wS
    have t : ∀ j, suN (fun z => if x.testBit z = true then wR r ns z else 0) (ns + j) = suN (fun z => if x.testBit z = true then wR r ns z else 0) ns := by
      intro j
      induction j with
      | zero => rfl
      | succ j ih =>
        show suN _ (ns + j) + (if x.testBit (ns + j) = true then wR r ns (ns + j) else 0) = _
        rw [ih]
        have : wR r ns (ns + j) = 0 := by unfold wR; rw [if_neg (by omega)]
        rw [this]
        split <;> rfl
    have := t (10 - ns)
    rw [show ns + (10 - ns) = 10 by omega] at this
    exact this.symm
  · refine suN_bd (B := 40) (fun z => ?_) 10
    split
    · exact wb z
    · exact Nat.zero_le _
