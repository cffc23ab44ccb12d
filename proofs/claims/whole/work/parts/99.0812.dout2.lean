/-! SHARE: dealOut, pure pieces -/
theorem enB_s {S : Nat → Bool} {N k : Nat} (h : k < cN S N) : enB S (N + 1) k = enB S N k := by
  show (if S N = true ∧ cN S N = k then N else enB S N k) = _
  rw [if_neg (fun z => by omega)]
theorem suN_en {w : Nat → Nat} {S : Nat → Bool} : ∀ N, suN (fun z => if S z = true then w z else 0) N = suN (fun k => w (enB S N k)) (cN S N) := by
  intro N
  induction N with
  | zero => rfl
  | succ N ih =>
    have es : cN S (N + 1) = cN S N + (if S N = true then 1 else 0) := rfl
    show suN (fun z => if S z = true then w z else 0) N + (if S N = true then w N else 0) = _
    by_cases c : S N = true
    · rw [es, if_pos c, if_pos c, ih]
      show _ = suN (fun k => w (enB S (N + 1) k)) (cN S N) + w (enB S (N + 1) (cN S N))
      have e1 : enB S (N + 1) (cN S N) = N := by
        show (if S N = true ∧ cN S N = cN S N then N else _) = N
        rw [if_pos ⟨c, rfl⟩]
      rw [e1, suN_congr (f := fun k => w (enB S N k)) (g := fun k => w (enB S (N + 1) k)) (fun k hk => by rw [enB_s hk])]
    · rw [es, if_neg c, if_neg c, ih]
      exact suN_congr (fun k hk => by rw [enB_s hk])
theorem gp_lt {c : Nat} {w : Nat → Nat} (hc : 0 < c) : ∀ {n s : Nat} {L gv : Nat → Nat} {k : Nat}, (k < s → gv k < c) → k < s + n → gp c w n s L gv k < c := by
  intro n
  induction n with
  | zero => intro s L gv k h hk; exact h (by omega)
  | succ n ih =>
    intro s L gv k h hk
    show gp c w n (s + 1) _ (setN gv s _) k < c
    refine ih (fun l => ?_) (by omega)
    unfold setN
    by_cases q : k = s
    · rw [if_pos q]; exact amN_lt hc
    · rw [if_neg q]; exact h (by omega)
theorem ceil_le {t c q : Nat} (hc : 0 < c) (h : t ≤ c * q) : (t + c - 1) / c ≤ q := by
  have : (t + c - 1) / c < q + 1 := (Nat.div_lt_iff_lt_mul hc).mpr (by rw [Nat.succ_mul, Nat.mul_comm q c]; omega)
  omega
