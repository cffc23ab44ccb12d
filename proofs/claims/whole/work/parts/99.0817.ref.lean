/-! SHARE: the way of the reference -/
theorem cN_cg {p q : Nat → Bool} : ∀ {n : Nat}, (∀ z, z < n → p z = q z) → cN p n = cN q n := by
  intro n
  induction n with
  | zero => intro _; rfl
  | succ n ih =>
    intro e
    show cN p n + (if p n = true then 1 else 0) = cN q n + (if q n = true then 1 else 0)
    rw [ih (fun z hz => e z (by omega)), e n (by omega)]
theorem enB_cg {p q : Nat → Bool} {k : Nat} : ∀ {n : Nat}, (∀ z, z < n → p z = q z) → enB p n k = enB q n k := by
  intro n
  induction n with
  | zero => intro _; rfl
  | succ n ih =>
    intro e
    show (if p n = true ∧ cN p n = k then n else enB p n k) = (if q n = true ∧ cN q n = k then n else enB q n k)
    rw [ih (fun z hz => e z (by omega)), e n (by omega), cN_cg (fun z hz => e z (by omega))]
theorem gp_low {c : Nat} {w : Nat → Nat} : ∀ {n s : Nat} {L gv : Nat → Nat} {k : Nat}, k < s → gp c w n s L gv k = gv k := by
  intro n
  induction n with
  | zero => intro s L gv k _; rfl
  | succ n ih =>
    intro s L gv k hk
    show gp c w n (s + 1) _ (setN gv s _) k = gv k
    rw [ih (by omega)]
    unfold setN
    rw [if_neg (by omega)]
theorem btS {n : Nat} {p : Nat → Bool} (hn : n ≤ 31) {z : Nat} (hz : z < n) : bt (orS n p) z = p z := by
  rw [bt_orS (by omega) _ (by omega), decide_eq_true hz, Bool.true_and]
/-- those who are still to be given -/
def lfM (S : Nat → Bool) (ns i M : Nat) : Prop := M < 1024 ∧ ∀ z, z < 10 → (M.testBit z = true ↔ ∃ k, i ≤ k ∧ k < cN S ns ∧ z = enB S ns k)
theorem lfM_FM {w : Nat → Nat} {S : Nat → Bool} {ns i M c : Nat} {R : Nat → Nat} (hn : ns ≤ 10) (hi : i ≤ cN S ns) (h : lfM S ns i M) : FM w c M.testBit R ↔ Fz c (fun k => w (enB S ns k)) (cN S ns - i) i R := by
  have q : ∀ z, z < 10 → M.testBit z = tlB (enB S ns) (cN S ns - i) i z := fun z hz => by
    rw [Bool.eq_iff_iff, h.2 z hz, tlB_iff, show i + (cN S ns - i) = cN S ns by omega]
  rw [← FM_Fz (w := w) (c := c) (m := cN S ns) (zz := enB S ns) (fun k hk => by have := (enB_ok hk).1; omega) (fun i j hij hj => enB_inj hij hj) (R := R) (by omega)]
  exact ⟨FM_congr q (fun _ _ => rfl), FM_congr (fun z hz => (q z hz).symm) (fun _ _ => rfl)⟩
theorem lfM_s {S : Nat → Bool} {ns i M : Nat} (hn : ns ≤ 10) (hi : i < cN S ns) (h : lfM S ns i M) : lfM S ns (i + 1) (M &&& (1023 ^^^ 2 ^ (enB S ns i))) := by
  have e := enB_ok hi
  refine ⟨Nat.lt_of_le_of_lt Nat.and_le_left h.1, fun z hz => ?_⟩
  rw [dif_bit hz, Nat.testBit_two_pow, Bool.and_eq_true, h.2 z hz]
  constructor
  · rintro ⟨⟨k, a, b, rfl⟩, d⟩
    refine ⟨k, ?_, b, rfl⟩
    by_cases q : k = i
    · rw [q] at d; simp at d
    · omega
  · rintro ⟨k, a, b, rfl⟩
    refine ⟨⟨k, by omega, b, rfl⟩, ?_⟩
    have := enB_inj (p := S) (N := ns) (show i < k by omega) b
    simp [this]
