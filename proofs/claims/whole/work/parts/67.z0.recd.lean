/-! atom, every, some of the reference: what their specs say -/
theorem mxH_e {h h1 : mxH} (K : mxK h h1) (e : ∀ b j, mx_i h1 b j = mx_i h b j) : h1 = h := by
  obtain ⟨a1, a2, a3, a4, a5, a6⟩ := h
  obtain ⟨b1, b2, b3, b4, b5, b6⟩ := h1
  obtain ⟨k1, k2, k3, k4, k5⟩ := K
  have e4 : b4 = a4 := by funext b j; exact e b j
  have k1 : b1 = a1 := k1
  have k2 : b2 = a2 := k2
  have k3 : b3 = a3 := k3
  have k4 : b5 = a5 := k4
  have k5 : b6 = a6 := k5
  subst e4 k1 k2 k3 k4 k5
  rfl
def okA (ev : Nat) (h : mxH) : Prop := okT h ∧ fc01 h ∧ mx_i h 381 12 = -1 ∧ ∃ k, k ≤ 6 ∧ mx_i h 381 13 = nI k ∧ 6 < k + ev
def badB (h : mxH) (n b e : Nat) (h1 : mxH) : Prop := ∃ z, z ≤ n + b ∧ h1 = mx_wi (mx_wi h 381 11 (nI z)) 381 12 (nI e)
def outA (h : mxH) (n b k : Nat) (r : PR) (x : Int32) (h1 : mxH) : Prop := match r with
  | .inl e => badB h n b e h1
  | .inr (s, q) => h1 = mx_wi h 381 11 (nI q) ∧ Vd (Fh h) s x k
def dA (m k : Nat) : Nat := (3 + 2 * (6 - k)) + (if m = 0 then 0 else if m = 1 then 1 else 2)
def pA (m : Nat) (h : mxH) (x : Int32) (h1 : mxH) : Prop := mxK h h1 ∧ (x = 0 ∨ x = 1) ∧ ∀ T n p k f r, Rd h T n p → k ≤ 6 → mx_i h 381 13 = nI k → pX T n f m k [] p = some r → outA h n (6 - k) (dA m k) r x h1
