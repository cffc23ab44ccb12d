/-! SHARE: the stones in their order; what no way can be below -/
/-- the place of the k-th true one below N -/
def enB (p : Nat → Bool) : Nat → Nat → Nat
  | 0, _ => 0
  | N + 1, k => if p N = true ∧ cN p N = k then N else enB p N k
theorem cN_s {p : Nat → Bool} {n : Nat} : cN p (n + 1) = cN p n + (if p n = true then 1 else 0) := rfl
theorem cN_up {p : Nat → Bool} {n : Nat} : ∀ j, cN p n ≤ cN p (n + j) := by
  intro j
  induction j with
  | zero => exact Nat.le_refl _
  | succ j ih =>
    have : cN p (n + (j + 1)) = cN p (n + j) + (if p (n + j) = true then 1 else 0) := rfl
    rw [this]; omega
theorem enB_ok {p : Nat → Bool} : ∀ {N k : Nat}, k < cN p N → enB p N k < N ∧ p (enB p N k) = true ∧ cN p (enB p N k) = k := by
  intro N
  induction N with
  | zero => intro k h; exact absurd h (Nat.not_lt_zero _)
  | succ N ih =>
    intro k h
    rw [cN_s] at h
    have e : enB p (N + 1) k = if p N = true ∧ cN p N = k then N else enB p N k := rfl
    rw [e]
    by_cases c : p N = true ∧ cN p N = k
    · rw [if_pos c]; exact ⟨by omega, c.1, c.2⟩
    · rw [if_neg c]
      have hk : k < cN p N := by
        by_cases q : p N = true
        · rw [if_pos q] at h
          have : ¬ cN p N = k := fun z => c ⟨q, z⟩
          omega
        · rw [if_neg q] at h; omega
      have := ih hk
      exact ⟨by omega, this.2⟩
theorem enB_inj {p : Nat → Bool} {N : Nat} {i j : Nat} (hij : i < j) (hj : j < cN p N) : ¬ enB p N i = enB p N j := by
  intro e
  have a := (enB_ok (p := p) (N := N) (k := i) (by omega)).2.2
  have b := (enB_ok (p := p) (N := N) (k := j) hj).2.2
  rw [e, b] at a
  omega
theorem enB_at {p : Nat → Bool} {N z : Nat} (hz : z < N) (hp : p z = true) : cN p z < cN p N ∧ enB p N (cN p z) = z := by
  have h1 : cN p (z + 1) ≤ cN p N := by
    have := cN_up (p := p) (n := z + 1) (N - (z + 1))
    rw [show z + 1 + (N - (z + 1)) = N by omega] at this
    exact this
  rw [cN_s, if_pos hp] at h1
  have hk : cN p z < cN p N := by omega
  have ok := enB_ok hk
  refine ⟨hk, ?_⟩
  generalize enB p N (cN p z) = y at ok
  obtain ⟨y1, y2, y3⟩ := ok
  rcases Nat.lt_trichotomy y z with l | l | l
  · have := cN_up (p := p) (n := y + 1) (z - (y + 1))
    rw [show y + 1 + (z - (y + 1)) = z by omega, cN_s, if_pos y2] at this
    omega
  · exact l
  · have := cN_up (p := p) (n := z + 1) (y - (z + 1))
    rw [show z + 1 + (y - (z + 1)) = y by omega, cN_s, if_pos hp] at this
    omega
section
variable {c : Nat} {w : Nat → Nat}
theorem Fz_sum : ∀ {n s : Nat} {R : Nat → Nat}, Fz c w n s R → suN (fun k => w (s + k)) n ≤ suN R c := by
  intro n
  induction n with
  | zero => intro s R _; exact Nat.zero_le _
  | succ n ih =>
    intro s R ⟨i, hi, h1, h2⟩
    have a := ih h2
    have b := suN_add (f := R) (g := suB R i (w s)) (y := i) (x := w s) (n := c) (fun z _ => by
      unfold suB
      by_cases q : z = i
      · rw [if_pos q, if_pos q, q]; omega
      · rw [if_neg q, if_neg q]; omega)
    rw [if_pos hi] at b
    have e : ∀ n, suN (fun k => w (s + k)) (n + 1) = w s + suN (fun k => w (s + 1 + k)) n := by
      intro n
      induction n with
      | zero => show 0 + w (s + 0) = w s + 0; rw [Nat.add_zero s]; omega
      | succ n ihn =>
        show suN (fun k => w (s + k)) (n + 1) + w (s + (n + 1)) = w s + (suN (fun k => w (s + 1 + k)) n + w (s + 1 + n))
        rw [ihn, show s + (n + 1) = s + 1 + n by omega]
        omega
    rw [e n]
    omega
theorem Fz_one {B : Nat} : ∀ {n s : Nat} {R : Nat → Nat}, (∀ i, R i ≤ B) → Fz c w n s R → ∀ k, k < n → w (s + k) ≤ B := by
  intro n
  induction n with
  | zero => intro s R _ _ k hk; omega
  | succ n ih =>
    intro s R hB ⟨i, hi, h1, h2⟩ k hk
    by_cases q : k = 0
    · rw [q]; exact Nat.le_trans h1 (hB i)
    · have := ih (s := s + 1) (R := suB R i (w s)) (fun i => by
        have := hB i
        unfold suB
        split <;> omega) h2 (k - 1) (by omega)
      rw [show s + 1 + (k - 1) = s + k by omega] at this
      exact this
theorem sO_one (hc : 0 < c) {n : Nat} {k : Nat} (hk : k < n) : w k ≤ sO c w n 0 (fun _ => 0) := by
  have h := ((sO_iff (w := w) hc (n := n) (s := 0) (L := fun _ => 0)).mp (Nat.le_refl _)).2
  have := Fz_one (B := sO c w n 0 (fun _ => 0)) (fun i => by omega) h k hk
  rw [Nat.zero_add] at this
  exact this
theorem sO_sum (hc : 0 < c) {n : Nat} : suN w n ≤ c * sO c w n 0 (fun _ => 0) := by
  have h := ((sO_iff (w := w) hc (n := n) (s := 0) (L := fun _ => 0)).mp (Nat.le_refl _)).2
  have a := Fz_sum h
  have b := suN_bd (f := fun _ => sO c w n 0 (fun _ => 0) - 0) (B := sO c w n 0 (fun _ => 0)) (fun _ => by omega) c
  have e : suN (fun k => w (0 + k)) n = suN w n := suN_congr (fun z _ => by rw [Nat.zero_add])
  rw [e] at a
  exact Nat.le_trans a b
end
