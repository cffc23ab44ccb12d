/-! SPECS by hand, 6: bytes onto the tape -/
theorem i8_idem (x : Int32) : x.toInt8.toInt32.toInt8.toInt32 = x.toInt8.toInt32 := by
  rw [Int8.toInt8_toInt32]
/-- the q-th byte of a number -/
def by4 (x : Int32) (q : Nat) : Int32 := (x >>> (nI (24 - 8 * q) &&& 31)).toInt8.toInt32
def adN (x : Int32) (h h1 : mxH) : Prop := mxU (fun b => b = 101 ∨ b = 102) h h1 ∧ (∀ j, j ≠ 1 → mx_i h1 101 j = mx_i h 101 j) ∧ ∀ n, n ≤ 396 → mx_i h 101 1 = nI n → mx_i h1 101 1 = nI (n + 4) ∧ ∀ j, mx_i h1 102 j = if n ≤ j ∧ j < n + 4 then by4 x (j - n) else mx_i h 102 j
/-- one byte -/
theorem ad1 {d : Nat} {h : mxH} {Q : mxO → mxH → Prop} {i1 : Int32} {q n : Nat} (G : mxG h) (hq : q < 4) (hn : n < 400) (e : mx_i h 101 1 = nI n) (k : ∀ h1, mxU (fun b => b = 101 ∨ b = 102) h h1 → (∀ j, j ≠ 1 → mx_i h1 101 j = mx_i h 101 j) → mx_i h1 101 1 = nI (n + 1) → (∀ j, mx_i h1 102 j = if j = n then by4 i1 q else mx_i h 102 j) → H_86_2 d h1 i1 (nI (24 - 8 * q) + (-8)) Q) : H_86_2 d h i1 (nI (24 - 8 * q)) Q := by
  refine tr_86_2 G ⟨fun c => absurd c (nI_pos (by omega)), fun _ => ⟨fun _ => ⟨by rw [e]; exact vp_in_nI hn (by decide), fun h4 e4 h7 e7 => ?_⟩, fun c => absurd (by rw [e]; exact nI_lt (b := 400) hn (by decide)) c⟩⟩
  rw [e, nI_clamp (by omega), i8_idem] at e4
  have e1 : mx_i h4 101 1 = nI n := by rw [e4, wi_ne (by decide)]; exact e
  refine k h7 (mxU_tr (mxU_wi' e4 (.inr rfl)) (mxU_wi' e7 (.inl rfl))) (fun j hj => ?_) ?_ (fun j => ?_)
  · rw [e7, wi_nj hj, e4, wi_ne (by decide)]
  · rw [e7, wi_at rfl rfl, e1, nI_1]
  · rw [e7, wi_ne (by decide), e4, wi_i]
    by_cases hj : j = n
    · rw [if_pos ⟨rfl, hj⟩, if_pos hj]; rfl
    · rw [if_neg (fun q => hj q.2), if_neg hj]
theorem sp_86 {d : Nat} {h : mxH} {Q : mxO → mxH → Prop} {i1 : Int32} (G : mxG h) (hc : cB (mx_i h 101 1) 396) (k : ∀ h1, adN i1 h h1 → Q (.inl none) h1) : mx_wp d 86 0 (mx_fr 86 [.ref 101, .int i1]) [] h Q := by
  obtain ⟨n, hn, e⟩ := hc
  refine tr_86_0 G ?_
  refine ad1 (q := 0) (n := n) G (by decide) (by omega) e (fun h1 u1 o1 l1 b1 => ?_)
  refine ad1 (q := 1) (n := n + 1) (mxU_G u1 G) (by decide) (by omega) l1 (fun h2 u2 o2 l2 b2 => ?_)
  have G2 := mxU_G u2 (mxU_G u1 G)
  refine ad1 (q := 2) (n := n + 2) G2 (by decide) (by omega) l2 (fun h3 u3 o3 l3 b3 => ?_)
  have G3 := mxU_G u3 G2
  refine ad1 (q := 3) (n := n + 3) G3 (by decide) (by omega) l3 (fun h4 u4 o4 l4 b4 => ?_)
  refine tr_86_2 (mxU_G u4 G3) ⟨fun _ => k h4 ⟨mxU_tr u1 (mxU_tr u2 (mxU_tr u3 u4)), fun j hj => by rw [o4 j hj, o3 j hj, o2 j hj, o1 j hj], fun m hm em => ?_⟩, fun c => absurd (by decide) c⟩
  have hmn : m = n := (nI_eq (by omega) (by omega)).mp (em.symm.trans e)
  subst hmn
  refine ⟨l4, fun j => ?_⟩
  rw [b4, b3, b2, b1]
  by_cases c : m ≤ j ∧ j < m + 4
  · rw [if_pos c]
    have : j = m ∨ j = m + 1 ∨ j = m + 2 ∨ j = m + 3 := by omega
    rcases this with rfl | rfl | rfl | rfl
    · rw [if_neg (by omega), if_neg (by omega), if_neg (by omega), if_pos rfl, Nat.sub_self]
    · rw [if_neg (by omega), if_neg (by omega), if_pos rfl, show m + 1 - m = 1 by omega]
    · rw [if_neg (by omega), if_pos rfl, show m + 2 - m = 2 by omega]
    · rw [if_pos rfl, show m + 3 - m = 3 by omega]
  · rw [if_neg c, if_neg (by omega), if_neg (by omega), if_neg (by omega), if_neg (by omega)]
