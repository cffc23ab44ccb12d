/-! SHARE: kth is the k-th place -/
theorem kB_en {i0 : Int32} {k : Nat} (hk : k < 31) : ∀ (f i : Nat), i + f ≤ 31 → cN (bt i0) i ≤ k → k < cN (bt i0) (i + f) → kB i0 (nI k) f i (nI (cN (bt i0) i)) = nI (enB (bt i0) (i + f) k) := by
  intro f
  induction f with
  | zero => intro i _ h1 h2; exact absurd h2 (by rw [Nat.add_zero]; omega)
  | succ f ih =>
    intro i hi h1 h2
    have cl := cN_le (p := bt i0) i
    have es : cN (bt i0) (i + 1) = cN (bt i0) i + (if bt i0 i = true then 1 else 0) := rfl
    have ei : i + (f + 1) = i + 1 + f := by omega
    show (if bt i0 i = true then (if nI (cN (bt i0) i) = nI k then nI i else kB i0 (nI k) f (i + 1) (nI (cN (bt i0) i) + 1)) else kB i0 (nI k) f (i + 1) (nI (cN (bt i0) i))) = _
    by_cases c : bt i0 i = true
    · rw [if_pos c]
      rw [if_pos c] at es
      by_cases q : cN (bt i0) i = k
      · rw [if_pos (by rw [q]), ← q, (enB_at (p := bt i0) (N := i + (f + 1)) (z := i) (by omega) c).2]
      · rw [if_neg (fun z => q ((nI_eq (by omega) (by omega)).mp z)), nI_1, ← es, ei]
        rw [ei] at h2
        exact ih (i + 1) (by omega) (by omega) h2
    · rw [if_neg c]
      rw [if_neg c] at es
      have es : cN (bt i0) (i + 1) = cN (bt i0) i := es
      rw [← es, ei]
      rw [ei] at h2
      exact ih (i + 1) (by omega) (by omega) h2
theorem kth_en {h : mxH} {i0 : Int32} {N k : Nat} (hN : N ≤ 31) (hk : k < cN (bt i0) N) : V_269 h i0 (nI k) = nI (enB (bt i0) N k) := by
  have cl := cN_le (p := bt i0) N
  have ok := enB_ok hk
  have up := cN_up (p := bt i0) (n := N) (31 - N)
  rw [show N + (31 - N) = 31 by omega] at up
  have e : enB (bt i0) 31 k = enB (bt i0) N k := by
    have := (enB_at (p := bt i0) (N := 31) (z := enB (bt i0) N k) (by omega) ok.2.1).2
    rw [ok.2.2] at this
    exact this
  have := kB_en (i0 := i0) (k := k) (by omega) 31 0 (by omega) (Nat.zero_le _) (by rw [Nat.zero_add]; omega)
  rw [Nat.zero_add, e] at this
  exact this
