/-! SHARE: what deal sees and leaves -/
abbrev Dv : Type := Nat × Nat × (Nat → Nat) × (Nat → Nat) × Nat × Nat × (Nat → Nat) × (Option Nat × (Nat → Nat)) × Nat
def VDs (h : mxH) (m : Nat) (st : Option Nat × (Nat → Nat)) : Prop := match st.1 with
  | none => mx_i h 109 7 = -1
  | some l => l ≤ 1000 ∧ mx_i h 109 7 = nI l ∧ ∀ k, k < m → mx_i h 114 k = mx_i h 110 (st.2 k)
def VDv (h : mxH) (c m : Nat) (w L : Nat → Nat) (s : Nat) (gv : Nat → Nat) (st : Option Nat × (Nat → Nat)) (bd : Nat) : Prop := (0 < c ∧ c ≤ 6 ∧ m ≤ 10 ∧ s ≤ m) ∧ mx_i h 109 2 = nI c ∧ mx_i h 109 6 = nI m ∧ (mx_i h 109 8 = nI bd ∧ bd ≤ 1000) ∧ (∀ k, k < m → mx_i h 112 k = nI (w k)) ∧ (∀ k, w k ≤ 40) ∧ (∀ i, i < c → mx_i h 111 i = nI (L i)) ∧ (∀ i, L i ≤ 40 * s) ∧ (∀ k, k < s → mx_i h 113 k = mx_i h 110 (gv k)) ∧ VDs h m st
def VDq (e : Nat) (i1 i2 : Int32) (h : mxH) (q : Dv) : Prop := VDv h q.1 q.2.1 q.2.2.1 q.2.2.2.1 q.2.2.2.2.1 q.2.2.2.2.2.2.1 q.2.2.2.2.2.2.2.1 q.2.2.2.2.2.2.2.2 ∧ i1 = nI q.2.2.2.2.1 ∧ i2 = nI q.2.2.2.2.2.1 ∧ q.2.2.2.2.2.1 ≤ 40 * q.2.2.2.2.1 ∧ q.2.1 + 1 = q.2.2.2.2.1 + e
def pD (e : Nat) (i1 i2 : Int32) (h h1 : mxH) : Prop := mxU (fun b => b = 109 ∨ b = 111 ∨ b = 113 ∨ b = 114) h h1 ∧ (∀ j, j ≠ 7 → mx_i h1 109 j = mx_i h 109 j) ∧ ∀ c m w L s g gv st bd, VDq e i1 i2 h (c, m, w, L, s, g, gv, st, bd) → VDv h1 c m w L s gv (dlN c w bd (m - s) s L g gv st) bd
