/-! SPECS by hand, 8: texts; letters of strings; the reference's skip; the class's next number -/
/-- the first place from p on whose letter is not such -/
def rn (c : Int32 → Bool) (T : Nat → Int32) (n : Nat) (p : Nat) : Nat := if _h : p < n ∧ c (T p) = true then rn c T n (p + 1) else p
termination_by n - p
decreasing_by omega
section
variable {c : Int32 → Bool} {T : Nat → Int32} {n : Nat}
theorem rn_y {p : Nat} (hp : p < n) (hc : c (T p) = true) : rn c T n p = rn c T n (p + 1) := by
  conv => lhs; rw [rn]
  rw [dif_pos ⟨hp, hc⟩]
theorem rn_n {p : Nat} (h : ¬ (p < n ∧ c (T p) = true)) : rn c T n p = p := by
  rw [rn, dif_neg h]
theorem rn_ind {P : Nat → Prop} (y : ∀ p, p < n → c (T p) = true → P (p + 1) → P p) (z : ∀ p, ¬ (p < n ∧ c (T p) = true) → P p) (p : Nat) : P p := by
  have : ∀ k p, n - p = k → P p := by
    intro k
    induction k with
    | zero => intro p hp; exact z p (fun q => by omega)
    | succ k ih =>
      intro p hp
      by_cases q : p < n ∧ c (T p) = true
      · exact y p q.1 q.2 (ih _ (by omega))
      · exact z p q
  exact this _ p rfl
theorem rn_ge (p : Nat) : p ≤ rn c T n p := by
  refine rn_ind (c := c) (T := T) (n := n) (P := fun p => p ≤ rn c T n p) (fun p hp hc ih => ?_) (fun p h => ?_) p
  · rw [rn_y hp hc]; omega
  · rw [rn_n h]; exact Nat.le_refl _
theorem rn_le {p : Nat} (h : p ≤ n) : rn c T n p ≤ n := by
  revert h
  refine rn_ind (c := c) (T := T) (n := n) (P := fun p => p ≤ n → rn c T n p ≤ n) (fun p hp hc ih _ => ?_) (fun p h q => ?_) p
  · rw [rn_y hp hc]; exact ih (by omega)
  · rw [rn_n h]; exact q
theorem rn_in (p : Nat) : ∀ q, p ≤ q → q < rn c T n p → q < n ∧ c (T q) = true := by
  refine rn_ind (c := c) (T := T) (n := n) (P := fun p => ∀ q, p ≤ q → q < rn c T n p → q < n ∧ c (T q) = true) (fun p hp hc ih q h1 h2 => ?_) (fun p h q h1 h2 => ?_) p
  · by_cases e : q = p
    · subst e; exact ⟨hp, hc⟩
    · rw [rn_y hp hc] at h2; exact ih q (by omega) h2
  · rw [rn_n h] at h2; omega
theorem rn_out (p : Nat) : ¬ (rn c T n p < n ∧ c (T (rn c T n p)) = true) := by
  refine rn_ind (c := c) (T := T) (n := n) (P := fun p => ¬ (rn c T n p < n ∧ c (T (rn c T n p)) = true)) (fun p hp hc ih => ?_) (fun p h => ?_) p
  · rw [rn_y hp hc]; exact ih
  · rw [rn_n h]; exact h
theorem rn_idem (p : Nat) : rn c T n (rn c T n p) = rn c T n p := rn_n (rn_out p)
theorem rn_mid {p : Nat} : ∀ q, p ≤ q → q ≤ rn c T n p → rn c T n q = rn c T n p := by
  refine rn_ind (c := c) (T := T) (n := n) (P := fun p => ∀ q, p ≤ q → q ≤ rn c T n p → rn c T n q = rn c T n p) (fun p hp hc ih q h1 h2 => ?_) (fun p h q h1 h2 => ?_) p
  · by_cases e : q = p
    · subst e; rfl
    · rw [rn_y hp hc] at h2 ⊢; exact ih q (by omega) h2
  · rw [rn_n h] at h2; rw [show q = p by omega]
end
def isSp (x : Int32) : Bool := decide (x = 32)
def isDg (x : Int32) : Bool := decide (¬ x < 48 ∧ ¬ 57 < x)
def isLt (x : Int32) : Bool := decide (¬ x < 97 ∧ ¬ 122 < x)
abbrev sk (T : Nat → Int32) (n p : Nat) : Nat := rn isSp T n p
/-- word k stands at p, alone -/
def isW (T : Nat → Int32) (n k p : Nat) : Bool := decide (rn isLt T n p = p + mxSl (31 + 2 * k) ∧ ∀ i, i < mxSl (31 + 2 * k) → T (p + i) = mxSb (31 + 2 * k) i)
/-- the number of the digits from p up to e -/
def dgs (T : Nat → Int32) (p e : Nat) : Int32 := fz (fun j s => 10 * s + T j - 48) p e 0
/-- letters of strings -/
theorem sb_all : ∀ k, k < 26 → (1 ≤ mxSl (31 + 2 * k) ∧ mxSl (31 + 2 * k) < 10) ∧ ∀ i, i < mxSl (31 + 2 * k) → ((((mxSb (31 + 2 * k) i) &&& 255).toUInt32 % 65536).toInt32 = mxSb (31 + 2 * k) i ∧ isLt (mxSb (31 + 2 * k) i) = true) := by decide +kernel
theorem sb_inj : ∀ k, k < 26 → ∀ j, j < 26 → mxSl (31 + 2 * k) = mxSl (31 + 2 * j) → (∀ i, i < mxSl (31 + 2 * k) → mxSb (31 + 2 * k) i = mxSb (31 + 2 * j) i) → k = j := by decide +kernel
set_option maxRecDepth 16384 in
theorem sp_313 {d : Nat} {h : mxH} {Q : mxO → mxH → Prop} {i0 i1 : Int32} {s2 : Nat} (x0 : ¬ i0 < 0) (x1 : i0 < i1) (k : Q (.inl (some (.int i0))) h) : mx_wp d 313 0 (mx_fr 313 [.int i0, .int i1, .ref s2]) [] h Q := by
  show mx_wp d 313 0 [some (.int i0), some (.int i1), some (.ref s2)] [] h Q
  refine wp_steps (i' := 1) (ls' := [some (.int i0), some (.int i1), some (.ref s2)]) (st' := [.int i0]) (h' := h) (P := True) 1 rfl rfl trivial ?_
  refine wp_br (P := True) (c := i0 < 0) (t := 5) (st' := []) rfl rfl trivial (fun c => absurd c x0) (fun _ => ?_)
  refine wp_steps (i' := 4) (ls' := [some (.int i0), some (.int i1), some (.ref s2)]) (st' := [.int i1, .int i0]) (h' := h) (P := True) 2 rfl rfl trivial ?_
  refine wp_br (P := True) (c := i0 < i1) (t := 10) (st' := []) rfl rfl trivial (fun _ => ?_) (fun c => absurd x1 c)
  refine wp_steps (i' := 11) (ls' := [some (.int i0), some (.int i1), some (.ref s2)]) (st' := [.int i0]) (h' := h) (P := True) 1 rfl rfl trivial ?_
  exact wp_end (o := .inl (some (.int i0))) (h' := h) (P := True) rfl rfl trivial k
set_option maxRecDepth 16384 in
theorem sp_311 {d : Nat} {h : mxH} {Q : mxO → mxH → Prop} {i0 i1 : Int32} (x0 : ¬ i0 < 0) (x1 : i0 < i1) (k : Q (.inl none) h) : mx_wp (d + 1) 311 0 (mx_fr 311 [.int i0, .int i1]) [] h Q := by
  show mx_wp (d + 1) 311 0 [some (.int i0), some (.int i1)] [] h Q
  refine wp_steps (i' := 3) (ls' := [some (.int i0), some (.int i1)]) (st' := [.ref 29, .int i1, .int i0]) (h' := h) (P := True) 3 rfl rfl trivial ?_
  refine wp_call (b := false) (y' := 313) (as := [.int i0, .int i1, .ref 29]) (rest := []) (P := True) rfl (by with_unfolding_all rfl) trivial (Nat.le_of_ble_eq_true rfl) (sp_313 x0 x1 ?_)
  show mx_wp (d + 1) 311 4 [some (.int i0), some (.int i1)] [.int i0] h Q
  refine wp_steps (i' := 5) (ls' := [some (.int i0), some (.int i1)]) (st' := []) (h' := h) (P := True) 1 rfl rfl trivial ?_
  exact wp_end (o := .inl none) (h' := h) (P := True) rfl rfl trivial k
theorem nar_ch {x y : Int32} (h : (x.toUInt32 % 65536).toInt32 = y) (e : (y.toUInt32 % 65536).toInt32 = y) : narrow .char (.int y) = .int y := by
  show Value.int ((y.toUInt32 % 65536).toInt32) = _
  rw [e]
theorem c16 {x y : Int32} (h : (x.toUInt32 % 65536).toInt32 = y) : (y.toUInt32 % 65536).toInt32 = y := by
  rw [← h, UInt32.toUInt32_toInt32]
  congr 1
  apply UInt32.toNat_inj.mp
  simp
set_option maxRecDepth 16384 in
theorem sp_312 {d : Nat} {h : mxH} {Q : mxO → mxH → Prop} {i1 : Int32} {q : Nat} (hq : q < 26) (x0 : vp_in i1 (mxSl (31 + 2 * q))) (k : Q (.inl (some (.int (mxSb (31 + 2 * q) i1.toNatClampNeg)))) h) : mx_wp (d + 2) 312 0 (mx_fr 312 [.ref (31 + 2 * q), .int i1]) [] h Q := by
  have s := sb_all q hq
  have o := vp_lt x0
  have hi0 : ¬ i1 < 0 := by unfold vp_in at x0; exact fun c => x0 (.inl c)
  obtain ⟨j, hj, rfl⟩ := nI_of hi0
  rw [nI_clamp hj] at o k
  have e := (s.2 j o).1
  show mx_wp (d + 2) 312 0 [some (.ref (31 + 2 * q)), some (.int (nI j))] [] h Q
  refine wp_steps (i' := 3) (ls' := [some (.ref (31 + 2 * q)), some (.int (nI j))]) (st' := [.int (nI (mxSl (31 + 2 * q))), .int (nI j)]) (h' := h) (P := (31 ≤ 31 + 2 * q ∧ 31 + 2 * q < 83 ∧ (31 + 2 * q) % 2 = 1) ∧ True) 3 rfl rfl ⟨⟨by omega, by omega, by omega⟩, trivial⟩ ?_
  refine wp_call (b := false) (y' := 311) (as := [.int (nI j), .int (nI (mxSl (31 + 2 * q)))]) (rest := []) (P := True) rfl (by with_unfolding_all rfl) trivial (Nat.le_of_ble_eq_true rfl) (sp_311 hi0 (nI_lt o (by omega)) ?_)
  show mx_wp (d + 2) 312 4 [some (.ref (31 + 2 * q)), some (.int (nI j))] [] h Q
  refine wp_steps (i' := 10) (ls' := [some (.ref (31 + 2 * q)), some (.int (nI j))]) (st' := [.int ((((mxSb (31 + 2 * q) (nI j).toNatClampNeg) &&& 255).toUInt32 % 65536).toInt32)]) (h' := h) (P := ((31 ≤ 31 + 2 * q ∧ 31 + 2 * q < 83 ∧ (31 + 2 * q) % 2 = 1) ∧ vp_in (nI j) (mxSl (31 + 2 * q))) ∧ True) 6 rfl rfl ⟨⟨⟨by omega, by omega, by omega⟩, x0⟩, trivial⟩ ?_
  rw [nI_clamp hj, e]
  refine wp_end (o := .inl (some (.int (mxSb (31 + 2 * q) j)))) (h' := h) (P := narrow .char (.int (mxSb (31 + 2 * q) j)) = .int (mxSb (31 + 2 * q) j)) rfl rfl (nar_ch e ?_) k
  exact c16 (s.2 j o).1
def V_308 (h : mxH) (s0 : Nat) (i1 : Int32) : Int32 := mxSb (s0 + 1) i1.toNatClampNeg
set_option maxRecDepth 16384 in
theorem sp_308 {d : Nat} {h : mxH} {Q : mxO → mxH → Prop} {s0 : Nat} {i1 : Int32} (G : mxG h) (x0 : 30 ≤ s0 ∧ s0 < 82 ∧ s0 % 2 = 0) (x1 : vp_in i1 (mxSl (s0 + 1))) (k : Q (.inl (some (.int (V_308 h s0 i1)))) h) : mx_wp (d + 3) 308 0 (mx_fr 308 [.ref s0, .int i1]) [] h Q := by
  obtain ⟨q, hq, rfl⟩ : ∃ q, q < 26 ∧ s0 = 30 + 2 * q := ⟨(s0 - 30) / 2, by omega, by omega⟩
  unfold V_308 at k
  rw [show 30 + 2 * q + 1 = 31 + 2 * q by omega] at x1 k
  show mx_wp (d + 3) 308 0 [some (.ref (30 + 2 * q)), some (.int i1)] [] h Q
  refine wp_steps (i' := 1) (ls' := [some (.ref (30 + 2 * q)), some (.int i1)]) (st' := [.ref (30 + 2 * q)]) (h' := h) (P := True) 1 rfl rfl trivial ?_
  refine wp_call (b := false) (y' := 310) (as := [.ref (30 + 2 * q)]) (rest := []) (P := 30 ≤ 30 + 2 * q ∧ 30 + 2 * q < 82 ∧ (30 + 2 * q) % 2 = 0) rfl (by with_unfolding_all rfl) x0 (Nat.le_of_ble_eq_true rfl) (sp_310 G ⟨fun _ => trivial, fun _ => ⟨x0, trivial⟩⟩ ?_)
  show mx_wp (d + 3) 308 2 [some (.ref (30 + 2 * q)), some (.int i1)] [.int 1] h Q
  refine wp_br (P := True) (c := (1 : Int32) = 0) (t := 8) (st' := []) rfl rfl trivial (fun c => absurd c (by decide)) (fun _ => ?_)
  refine wp_steps (i' := 6) (ls' := [some (.ref (30 + 2 * q)), some (.int i1)]) (st' := [.int i1, .ref (30 + 2 * q + 1)]) (h' := h) (P := (30 ≤ 30 + 2 * q ∧ 30 + 2 * q < 82 ∧ (30 + 2 * q) % 2 = 0) ∧ True) 3 rfl rfl ⟨x0, trivial⟩ ?_
  refine wp_call (b := false) (y' := 312) (as := [.ref (30 + 2 * q + 1), .int i1]) (rest := []) (P := True) rfl (by with_unfolding_all rfl) trivial (Nat.le_of_ble_eq_true rfl) ?_
  rw [show 30 + 2 * q + 1 = 31 + 2 * q by omega]
  refine sp_312 hq x1 ?_
  show mx_wp (d + 3) 308 7 [some (.ref (30 + 2 * q)), some (.int i1)] [.int (mxSb (31 + 2 * q) i1.toNatClampNeg)] h Q
  have s := sb_all q hq
  have e := (s.2 _ (vp_lt x1)).1
  refine wp_end (o := .inl (some (.int (mxSb (31 + 2 * q) i1.toNatClampNeg)))) (h' := h) (P := narrow .char (.int (mxSb (31 + 2 * q) i1.toNatClampNeg)) = .int (mxSb (31 + 2 * q) i1.toNatClampNeg)) rfl rfl (nar_ch e ?_) k
  exact c16 e
/-- the reference reads a text T of n letters, and is at p -/
def Rd (h : mxH) (T : Nat → Int32) (n p : Nat) : Prop := n ≤ 400 ∧ p ≤ n ∧ mx_i h 381 10 = nI n ∧ mx_i h 381 11 = nI p ∧ (∀ k, n ≤ k → T k = 0) ∧ ((mx_i h 381 9 = -1 ∧ ∀ k, k < n → mx_i h 386 k = T k) ∨ (mx_i h 381 9 = 369 ∧ ∀ k, k < n → mx_i h 382 (369 + k) = T k))
def okT (h : mxH) : Prop := ∃ T n p, Rd h T n p
section
variable {h : mxH} {T T' : Nat → Int32} {n p n' p' : Nat}
theorem Rd_uniq (R : Rd h T n p) (R' : Rd h T' n' p') : T' = T ∧ n' = n ∧ p' = p := by
  obtain ⟨a1, a2, a3, a4, a5, a6⟩ := R
  obtain ⟨b1, b2, b3, b4, b5, b6⟩ := R'
  have en : n' = n := (nI_eq (by omega) (by omega)).mp (b3.symm.trans a3)
  have ep : p' = p := (nI_eq (by omega) (by omega)).mp (b4.symm.trans a4)
  subst en ep
  refine ⟨?_, rfl, rfl⟩
  funext k
  by_cases hk : k < n'
  · rcases a6 with ⟨c1, c2⟩ | ⟨c1, c2⟩ <;> rcases b6 with ⟨e1, e2⟩ | ⟨e1, e2⟩
    · rw [← c2 k hk, ← e2 k hk]
    · rw [c1] at e1; exact absurd e1 (by decide)
    · rw [c1] at e1; exact absurd e1 (by decide)
    · rw [← c2 k hk, ← e2 k hk]
  · rw [a5 k (by omega), b5 k (by omega)]
theorem Rd_at (R : Rd h T n p) {q : Nat} (hq : q ≤ n) : Rd (mx_wi h 381 11 (nI q)) T n q := by
  obtain ⟨a1, a2, a3, a4, a5, a6⟩ := R
  refine ⟨a1, hq, ?_, wi_at rfl rfl, a5, ?_⟩
  · rw [wi_nj (by decide)]; exact a3
  · rw [wi_nj (by decide), wi_ne (by decide), wi_ne (by decide)]; exact a6
theorem Rd_wi (R : Rd h T n p) {k : Nat} {v : Int32} (hk : k ≠ 9 ∧ k ≠ 10 ∧ k ≠ 11) : Rd (mx_wi h 381 k v) T n p := by
  obtain ⟨a1, a2, a3, a4, a5, a6⟩ := R
  refine ⟨a1, a2, ?_, ?_, a5, ?_⟩
  · rw [wi_nj (by omega)]; exact a3
  · rw [wi_nj (by omega)]; exact a4
  · rw [wi_nj (by omega), wi_ne (by decide), wi_ne (by decide)]; exact a6
theorem Rd_209 (R : Rd h T n p) {k : Nat} (hk : k < n) : V_209 h (nI k) = T k := by
  obtain ⟨a1, a2, a3, a4, a5, a6⟩ := R
  unfold V_209
  rcases a6 with ⟨c1, c2⟩ | ⟨c1, c2⟩
  · rw [if_pos c1, nI_clamp (by omega), c2 k hk]
  · rw [if_neg (by rw [c1]; decide), c1, show (369 : Int32) = nI 369 from rfl, nI_add, nI_clamp (by omega), c2 k hk]
theorem Rd_ix (R : Rd h T n p) {k : Nat} (hk : k < n) : ((mx_i h 381 9 = (-1) → (vp_in (nI k) 400 ∧ True)) ∧ (¬ mx_i h 381 9 = (-1) → (vp_in (mx_i h 381 9 + nI k) 769 ∧ True))) := by
  obtain ⟨a1, a2, a3, a4, a5, a6⟩ := R
  refine ⟨fun _ => ⟨vp_in_nI (by omega) (by decide), trivial⟩, fun c => ⟨?_, trivial⟩⟩
  rcases a6 with ⟨c1, c2⟩ | ⟨c1, c2⟩
  · exact absurd c1 c
  · rw [c1, show (369 : Int32) = nI 369 from rfl, nI_add]; exact vp_in_nI (by omega) (by decide)
theorem Rd_lt (R : Rd h T n p) : (mx_i h 381 11 < mx_i h 381 10) = (p < n) := by
  rw [R.2.2.1, R.2.2.2.1]; have := R.1; have := R.2.1; exact nI_lt_iff (by omega) (by omega)
theorem wi_wi {a k : Nat} {v w : Int32} : mx_wi (mx_wi h a k v) a k w = mx_wi h a k w := by
  have : mx_up (mx_up (mx_i h) a k v) a k w = mx_up (mx_i h) a k w := by
    funext b j
    unfold mx_up
    split <;> rfl
  show (h.1, h.2.1, h.2.2.1, mx_up (mx_up (mx_i h) a k v) a k w, mx_r h, mx_l h) = _
  rw [this]; rfl
theorem wi_id {a k : Nat} {v : Int32} (e : mx_i h a k = v) : mx_wi h a k v = h := by
  have : mx_up (mx_i h) a k v = mx_i h := by
    funext b j
    unfold mx_up
    split
    · rename_i q; rw [q.1, q.2, e]
    · rfl
  show (h.1, h.2.1, h.2.2.1, mx_up (mx_i h) a k v, mx_r h, mx_l h) = _
  rw [this]; rfl
end
theorem H210 {d n p : Nat} {h : mxH} {T : Nat → Int32} {Q : mxO → mxH → Prop} (G : mxG h) (R : Rd h T n p) (k : Q (.inl none) (mx_wi h 381 11 (nI (sk T n p)))) : H_210_0 (d + 1) h Q := by
  have : ∀ p, p ≤ n → Rd (mx_wi h 381 11 (nI p)) T n p → sk T n p = sk T n p → Q (.inl none) (mx_wi h 381 11 (nI (sk T n p))) → H_210_0 (d + 1) (mx_wi h 381 11 (nI p)) Q := by
    intro p
    refine rn_ind (c := isSp) (T := T) (n := n) (P := fun p => p ≤ n → Rd (mx_wi h 381 11 (nI p)) T n p → sk T n p = sk T n p → Q (.inl none) (mx_wi h 381 11 (nI (sk T n p))) → H_210_0 (d + 1) (mx_wi h 381 11 (nI p)) Q) (fun p hp hc ih _ R _ k => ?_) (fun p hn hp R _ k => ?_) p
    · refine tr_210_0 (mxG_wi G) ⟨fun _ => ?_, fun c => absurd ((Rd_lt R).mpr hp) c⟩
      rw [R.2.2.2.1]
      refine ⟨Rd_ix R hp, fun _ h4 e4 => ?_, fun c => absurd ?_ c⟩
      · rw [e4, wi_wi, nI_1]
        refine ih (by omega) ?_ rfl ?_
        · have := Rd_at R (q := p + 1) (by omega)
          rwa [wi_wi] at this
        · rwa [sk, rn_y hp hc] at k
      · rw [Rd_209 R hp]; exact of_decide_eq_true hc
    · rw [sk, rn_n hn] at k
      refine tr_210_0 (mxG_wi G) ⟨fun c => ?_, fun _ => k⟩
      have hp2 := (Rd_lt R).mp c
      rw [R.2.2.2.1]
      refine ⟨Rd_ix R hp2, fun c2 => ?_, fun _ => k⟩
      rw [Rd_209 R hp2] at c2
      exact absurd ⟨hp2, decide_eq_true c2⟩ hn
  have := this p R.2.1 (Rd_at R R.2.1) rfl k
  rwa [wi_id R.2.2.2.1] at this
def psk (h h1 : mxH) : Prop := ∀ T n p, Rd h T n p → h1 = mx_wi h 381 11 (nI (sk T n p))
theorem sp_210 {d : Nat} {h : mxH} {Q : mxO → mxH → Prop} (G : mxG h) (ok : okT h) (k : ∀ h1, (mxK h h1 ∧ psk h h1) → Q (.inl none) h1) : mx_wp (d + 1) 210 0 (mx_fr 210 [.ref 381]) [] h Q := by
  obtain ⟨T, n, p, R⟩ := ok
  refine tr_210_e G (H210 G R (k _ ⟨mxK_wi, fun T' n' p' R' => ?_⟩))
  obtain ⟨e1, e2, e3⟩ := Rd_uniq R R'
  rw [e1, e2, e3]
/-- the class's next number -/
def V_99 (h : mxH) : Int32 := if mx_i h 103 (mx_i h 101 3).toNatClampNeg = 2 then (if 3 < mx_i h 105 (mx_i h 101 3).toNatClampNeg then -1 else dgs (mx_i h 102) (mx_i h 104 (mx_i h 101 3).toNatClampNeg).toNatClampNeg ((mx_i h 104 (mx_i h 101 3).toNatClampNeg).toNatClampNeg + (mx_i h 105 (mx_i h 101 3).toNatClampNeg).toNatClampNeg)) else -1
/-- the token that the class is at -/
def tkOk (h : mxH) : Prop := ∃ t b s : Nat, t < 401 ∧ mx_i h 101 3 = nI t ∧ mx_i h 104 t = nI b ∧ mx_i h 105 t = nI s ∧ b ≤ 400 ∧ s ≤ 400 ∧ ((mx_i h 103 t = 1 ∨ mx_i h 103 t = 2) → b + s ≤ 400 ∧ 1 ≤ s) ∧ (mx_r h 106 t = 0 ∨ (3 ≤ mx_r h 106 t ∧ mx_r h 106 t < 29))
theorem sp_99 {d : Nat} {h : mxH} {Q : mxO → mxH → Prop} (G : mxG h) (ok : tkOk h) (k : Q (.inl (some (.int (V_99 h)))) h) : mx_wp d 99 0 (mx_fr 99 [.ref 101]) [] h Q := by
  obtain ⟨t, b, s, ht, e3, eb, es, hb, hs, hbs, hw⟩ := ok
  unfold V_99 at k
  have vt : vp_in (mx_i h 101 3) 401 := by rw [e3]; exact vp_in_nI ht (by decide)
  have ct : (mx_i h 101 3).toNatClampNeg = t := by rw [e3, nI_clamp (by omega)]
  refine tr_99_0 G ⟨vt, ?_⟩
  rw [ct] at k ⊢
  refine ⟨fun c => ⟨fun c2 => ?_, fun c2 => ?_⟩, fun c => ?_⟩
  · rw [if_pos c, if_pos c2] at k; exact k
  · rw [if_pos c, if_neg c2, eb, es, nI_clamp (by omega), nI_clamp (by omega)] at k
    rw [eb]
    have hbs := (hbs (.inr c)).1
    have key : ∀ j, j ≤ s → H_99_24 d h (dgs (mx_i h 102) b (b + (s - j))) (nI (b + (s - j))) Q := by
      intro j
      induction j with
      | zero =>
        intro _
        refine tr_99_24 G ⟨vt, ?_⟩
        rw [ct, eb, es, nI_add]
        exact ⟨fun c => absurd ((nI_ltI (by omega) (by omega)).mp c) (by omega), fun _ => k⟩
      | succ j ih =>
        intro hj
        have ih := ih (by omega)
        refine tr_99_24 G ⟨vt, ?_⟩
        rw [ct, eb, es, nI_add]
        refine ⟨fun _ => ⟨vp_in_nI (by omega) (by decide), ?_⟩, fun c => absurd (nI_lt (by omega) (by omega)) c⟩
        rw [nI_clamp (by omega), nI_1]
        rw [show b + (s - j) = b + (s - (j + 1)) + 1 by omega] at ih
        unfold dgs at ih
        rw [fz_s (by omega)] at ih
        exact ih
    have := key s (Nat.le_refl s)
    rw [Nat.sub_self, Nat.add_zero] at this
    unfold dgs at this
    rw [fz_0] at this
    exact this
  · rw [if_neg c] at k; exact k
/-! the class's tokens -/
/-- the end of the token at p -/
def te (T : Nat → Int32) (n p : Nat) : Nat := if isDg (T p) = true then rn isDg T n p else if isLt (T p) = true then rn isLt T n p else p + 1
def kd (T : Nat → Int32) (n p : Nat) : Int32 := if p < n then (if isDg (T p) = true then 2 else if isLt (T p) = true then 3 else 1) else 4
/-- where token t begins -/
def tb (T : Nat → Int32) (n : Nat) : Nat → Nat
  | 0 => sk T n 0
  | t + 1 => sk T n (te T n (tb T n t))
/-- the text of the class's tape -/
def Tx (h : mxH) (T : Nat → Int32) (n : Nat) : Prop := n ≤ 400 ∧ (∀ k, n ≤ k → T k = 0) ∧ (∀ k, isR (T k) 0 255) ∧ ∀ k, k < n → mx_i h 102 k = (T k).toInt8.toInt32
/-- what token t is -/
def Tk1 (h : mxH) (T : Nat → Int32) (n m t : Nat) : Prop := mx_i h 104 t = nI (tb T n t) ∧ mx_i h 103 t = kd T n (tb T n t) ∧ (tb T n t < n ↔ t < m) ∧ mx_i h 105 t = nI (if t < m then te T n (tb T n t) - tb T n t else 1)
def Wd1 (h : mxH) (T : Nat → Int32) (n t : Nat) : Prop := (mx_r h 106 t = 0 ∨ (3 ≤ mx_r h 106 t ∧ mx_r h 106 t < 29)) ∧ ∀ k, k < 26 → (isW T n k (tb T n t) = true ↔ mx_r h 106 t = 3 + k)
/-- the class reads: it is at the token that comes from p on -/
def Cl (h : mxH) (T : Nat → Int32) (n p : Nat) : Prop := Tx h T n ∧ ∃ m t : Nat, m ≤ n ∧ t ≤ m ∧ mx_i h 101 3 = nI t ∧ tb T n t = sk T n p ∧ ∀ s, s ≤ m → Tk1 h T n m s ∧ Wd1 h T n s
theorem b255 : ∀ k, k < 256 → ((k < 128 → (nI k).toInt8.toInt32 = nI k) ∧ (¬ k < 128 → (nI k).toInt8.toInt32 < 0) ∧ ((nI k).toInt8.toInt32 &&& 255) = nI k) := by decide +kernel
theorem r255 {x : Int32} (r : isR x 0 255) : ∃ k : Nat, k < 256 ∧ x = nI k := by
  obtain ⟨k, hk, rfl⟩ := nI_of (x := x) (fun c => absurd r.1 (Int32.not_le.mpr c))
  exact ⟨k, by have := (nI_leI (b := 255) hk (by decide)).mp r.2; omega, rfl⟩
theorem b_eq {x : Int32} (r : isR x 0 255) {c : Nat} (hc : c < 128) : (x.toInt8.toInt32 = nI c) = (x = nI c) := by
  obtain ⟨k, hk, rfl⟩ := r255 r
  have b := b255 k hk
  by_cases q : k < 128
  · rw [b.1 q]
  · have := b.2.1 q
    apply propext
    constructor
    · intro e; rw [e] at this; exact absurd this (nI_pos (by omega))
    · intro e; have := (nI_eq (by omega) (by omega)).mp e; omega
section
variable {h : mxH} {T : Nat → Int32} {n p : Nat}
theorem te_gt {p : Nat} (hp : p < n) : p < te T n p ∧ te T n p ≤ n := by
  unfold te
  split
  · rename_i q
    rw [rn_y hp q]
    exact ⟨Nat.lt_of_succ_le (rn_ge _), rn_le (by omega)⟩
  · split
    · rename_i q
      rw [rn_y hp q]
      exact ⟨Nat.lt_of_succ_le (rn_ge _), rn_le (by omega)⟩
    · omega
theorem Cl_tk (C : Cl h T n p) : ∃ t m : Nat, t ≤ m ∧ m ≤ n ∧ n ≤ 400 ∧ mx_i h 101 3 = nI t ∧ mx_i h 104 t = nI (sk T n p) ∧ mx_i h 103 t = kd T n (sk T n p) ∧ (sk T n p < n ↔ t < m) ∧ mx_i h 105 t = nI (if t < m then te T n (sk T n p) - sk T n p else 1) ∧ (mx_r h 106 t = 0 ∨ (3 ≤ mx_r h 106 t ∧ mx_r h 106 t < 29)) ∧ (∀ k, k < 26 → (isW T n k (sk T n p) = true ↔ mx_r h 106 t = 3 + k)) ∧ (t < m → Cl (mx_wi h 101 3 (mx_i h 101 3 + 1)) T n (te T n (sk T n p))) := by
  obtain ⟨X, m, t, hm, ht, e3, eb, A⟩ := C
  have a := A t ht
  rw [← eb]
  refine ⟨t, m, ht, hm, X.1, e3, a.1.1, a.1.2.1, a.1.2.2.1, a.1.2.2.2, a.2.1, a.2.2, fun q => ⟨?_, m, t + 1, hm, q, ?_, rfl, fun s hs => ?_⟩⟩
  · obtain ⟨x1, x2, x3, x4⟩ := X
    refine ⟨x1, x2, x3, fun k hk => ?_⟩
    rw [wi_ne (by decide)]; exact x4 k hk
  · rw [wi_at rfl rfl, e3, nI_1]
  · have a := A s hs
    unfold Tk1 Wd1 at a ⊢
    rw [wi_ne (by decide), wi_ne (by decide), wi_ne (by decide)]
    exact a
theorem sk_le (hp : p ≤ n) : sk T n p ≤ n := rn_le hp
theorem Cl_ok (C : Cl h T n p) : tkOk h := by
  obtain ⟨t, m, ht, hm, hn, e3, eb, ek, hl, es, hw, -⟩ := Cl_tk C
  have hb : sk T n p ≤ n ∨ ¬ sk T n p < n := by omega
  by_cases q : t < m
  · have q2 := hl.mpr q
    have g := te_gt (T := T) q2
    rw [if_pos q] at es
    exact ⟨t, _, _, by omega, e3, eb, es, by omega, by omega, fun _ => by omega, hw⟩
  · rw [if_neg q] at es
    have q2 : ¬ sk T n p < n := fun c => q (hl.mp c)
    unfold kd at ek
    rw [if_neg q2] at ek
    by_cases q3 : sk T n p ≤ 400
    · refine ⟨t, _, _, by omega, e3, eb, es, q3, by omega, fun c => ?_, hw⟩
      rw [ek] at c
      exact absurd c (by decide)
    · -- a token begins within the text
      exfalso
      have : tb T n t ≤ n := by
        obtain ⟨X, m', t', hm', ht', e3', eb', A'⟩ := C
        have : ∀ t, t ≤ m' → tb T n t ≤ n := by
          intro t
          induction t with
          | zero => intro _; exact rn_le (Nat.zero_le _)
          | succ t ih =>
            intro h1
            have i1 := (A' t (by omega)).1.2.2.1
            have := te_gt (T := T) (i1.mpr (by omega))
            exact rn_le this.2
        have ett : t' = t := (nI_eq (by omega) (by omega)).mp (e3'.symm.trans e3)
        exact this t (by omega)
      obtain ⟨X, m', t', hm', ht', e3', eb', A'⟩ := C
      have ett : t' = t := (nI_eq (by omega) (by omega)).mp (e3'.symm.trans e3)
      subst ett
      rw [eb'] at this
      omega
theorem isW_in {k : Nat} (hk : k < 26) (w : isW T n k p = true) : p < n ∧ isLt (T p) = true ∧ te T n p = p + mxSl (31 + 2 * k) ∧ p + mxSl (31 + 2 * k) ≤ n := by
  have w := of_decide_eq_true w
  have s := sb_all k hk
  have hp : p < rn isLt T n p := by rw [w.1]; omega
  have q := rn_in p p (Nat.le_refl p) hp
  refine ⟨q.1, q.2, ?_, ?_⟩
  · have nd : ¬ isDg (T p) = true := by
      intro c
      have c := of_decide_eq_true c
      have l := of_decide_eq_true q.2
      have l1 := l.1
      have c2 := c.2
      grind
    unfold te
    rw [if_neg nd, if_pos q.2, w.1]
  · rw [← w.1]; exact rn_le (by omega)
theorem isW_uniq {k j : Nat} (hk : k < 26) (hj : j < 26) (w : isW T n k p = true) (v : isW T n j p = true) : k = j := by
  have w := of_decide_eq_true w
  have v := of_decide_eq_true v
  have e : mxSl (31 + 2 * k) = mxSl (31 + 2 * j) := by have := w.1.symm.trans v.1; omega
  refine sb_inj k hk j hj e (fun i hi => ?_)
  rw [← w.2 i hi, ← v.2 i (e ▸ hi)]
end
/-- the cursor alone has moved -/
def mvC (h h1 : mxH) : Prop := ∃ v, h1 = mx_wi h 101 3 v
theorem mvC_K {h h1 : mxH} (u : mvC h h1) : mxK h h1 := by obtain ⟨v, rfl⟩ := u; exact mxK_wi
theorem mvC_rfl {h : mxH} : mvC h h := ⟨_, (wi_id rfl).symm⟩
theorem mvC_tr {h h1 h2 : mxH} (u : mvC h h1) (w : mvC h1 h2) : mvC h h2 := by
  obtain ⟨v, rfl⟩ := u; obtain ⟨v', rfl⟩ := w; exact ⟨v', wi_wi⟩
def okC (h : mxH) : Prop := ∃ T n p, Cl h T n p
def p96 (s1 : Nat) (h : mxH) (x : Int32) (h1 : mxH) : Prop := mvC h h1 ∧ ∀ T n p k, Cl h T n p → k < 26 → s1 = 3 + k → (isW T n k (sk T n p) = true ∧ x = 1 ∧ Cl h1 T n (sk T n p + mxSl (31 + 2 * k))) ∨ (¬ isW T n k (sk T n p) = true ∧ x = 0 ∧ h1 = h)
def isSg (c : Int32) : Prop := (¬ c < 33 ∧ c < 48) ∨ (57 < c ∧ c < 97)
theorem spm_96 {d : Nat} {h : mxH} {Q : mxO → mxH → Prop} {s1 : Nat} (G : mxG h) (x0 : okC h) (x1 : 3 ≤ s1 ∧ s1 < 29) (k : ∀ x h1, p96 s1 h x h1 → Q (.inl (some (.int x))) h1) : mx_wp d 96 0 (mx_fr 96 [.ref 101, .ref s1]) [] h Q := by
  obtain ⟨T, n, p, C⟩ := x0
  obtain ⟨t, m, ht, hm, hn, e3, eb, ek, hl, es, hw, hW, mv⟩ := Cl_tk C
  have ct : (mx_i h 101 3).toNatClampNeg = t := by rw [e3, nI_clamp (by omega)]
  refine tr_96_0 G ⟨by rw [e3]; exact vp_in_nI (by omega) (by decide), ?_⟩
  rw [ct]
  refine ⟨⟨hw, .inr x1⟩, fun c h4 e4 => k 1 h4 ⟨⟨_, e4⟩, fun T' n' p' q C' hq eq => .inl ?_⟩, fun c => k 0 h ⟨mvC_rfl, fun T' n' p' q C' hq eq => .inr ⟨fun w => ?_, rfl, rfl⟩⟩⟩
  · obtain ⟨t', m', ht', hm', hn', e3', eb', ek', hl', es', hw', hW', mv'⟩ := Cl_tk C'
    have ett : t' = t := (nI_eq (by omega) (by omega)).mp (e3'.symm.trans e3)
    subst ett eq
    have w := (hW' q hq).mpr c
    have i := isW_in hq w
    refine ⟨w, rfl, ?_⟩
    rw [e4, ← i.2.2.1]
    exact mv' (hl'.mp i.1)
  · obtain ⟨t', m', ht', hm', hn', e3', eb', ek', hl', es', hw', hW', mv'⟩ := Cl_tk C'
    have ett : t' = t := (nI_eq (by omega) (by omega)).mp (e3'.symm.trans e3)
    subst ett eq
    exact c ((hW' q hq).mp w)
theorem V95_i {h : mxH} {T : Nat → Int32} {n p : Nat} (C : Cl h T n p) {k : Nat} (hk : k < 26) : V_95 h (3 + k) = if isW T n k (sk T n p) = true then 1 else 0 := by
  obtain ⟨t, m, ht, hm, hn, e3, eb, ek, hl, es, hw, hW, mv⟩ := Cl_tk C
  unfold V_95
  rw [e3, nI_clamp (by omega)]
  by_cases c : isW T n k (sk T n p) = true
  · rw [if_pos ((hW k hk).mp c), if_pos c]
  · rw [if_neg (fun q => c ((hW k hk).mpr q)), if_neg c]
theorem V93_i {h : mxH} {T : Nat → Int32} {n p : Nat} (C : Cl h T n p) : V_93 h = if sk T n p < n then 0 else 1 := by
  obtain ⟨t, m, ht, hm, hn, e3, eb, ek, hl, es, hw, hW, mv⟩ := Cl_tk C
  unfold V_93
  rw [e3, nI_clamp (by omega), ek]
  unfold kd
  by_cases c : sk T n p < n
  · rw [if_pos c, if_pos c]
    split
    · rfl
    · split <;> rfl
  · rw [if_neg c, if_neg c]; rfl
theorem V94_i {h : mxH} {T : Nat → Int32} {n p : Nat} (C : Cl h T n p) : V_94 h = nI (sk T n p) := by
  obtain ⟨t, m, ht, hm, hn, e3, eb, ek, hl, es, hw, hW, mv⟩ := Cl_tk C
  unfold V_94
  rw [e3, nI_clamp (by omega), eb]
theorem sg_nd {c : Int32} (s : isSg c) : ¬ isDg c = true ∧ ¬ isLt c = true ∧ ¬ isSp c = true ∧ ¬ c < 0 ∧ c < 97 := by
  unfold isSg at s
  unfold isDg isLt isSp
  refine ⟨fun q => ?_, fun q => ?_, fun q => ?_, ?_, ?_⟩
  · have q := of_decide_eq_true q; have q1 := q.1; have q2 := q.2; rcases s with ⟨a, b⟩ | ⟨a, b⟩ <;> grind
  · have q := of_decide_eq_true q; have q1 := q.1; have q2 := q.2; rcases s with ⟨a, b⟩ | ⟨a, b⟩ <;> grind
  · have q := of_decide_eq_true q; rcases s with ⟨a, b⟩ | ⟨a, b⟩ <;> grind
  · rcases s with ⟨a, b⟩ | ⟨a, b⟩ <;> grind
  · rcases s with ⟨a, b⟩ | ⟨a, b⟩ <;> grind
theorem V97_i {h : mxH} {T : Nat → Int32} {n p : Nat} (C : Cl h T n p) {c : Int32} (s : isSg c) : V_97 h c = if sk T n p < n ∧ T (sk T n p) = c then 1 else 0 := by
  obtain ⟨t, m, ht, hm, hn, e3, eb, ek, hl, es, hw, hW, mv⟩ := Cl_tk C
  have g := sg_nd s
  obtain ⟨j, hj, rfl⟩ := nI_of g.2.2.2.1
  have hj2 := (nI_ltI (b := 97) hj (by decide)).mp g.2.2.2.2
  unfold V_97
  rw [e3, nI_clamp (by omega), ek, eb]
  unfold kd
  by_cases q : sk T n p < n
  · rw [if_pos q, nI_clamp (by omega), C.1.2.2.2 _ q]
    have r := C.1.2.2.1 (sk T n p)
    simp only [b_eq r (show j < 128 by omega)]
    by_cases q2 : T (sk T n p) = nI j
    · rw [q2, if_neg g.1, if_neg g.2.1, if_pos rfl, if_pos rfl, if_pos ⟨q, rfl⟩]
    · rw [if_neg q2, if_neg (fun z : sk T n p < n ∧ T (sk T n p) = nI j => q2 z.2)]
      exact ite_self _
  · rw [if_neg q, if_neg (by decide), if_neg (fun z : sk T n p < n ∧ T (sk T n p) = nI j => q z.1)]
def p98 (c : Int32) (h : mxH) (x : Int32) (h1 : mxH) : Prop := mvC h h1 ∧ ∀ T n p, Cl h T n p → isSg c → (sk T n p < n ∧ T (sk T n p) = c ∧ x = 1 ∧ Cl h1 T n (sk T n p + 1)) ∨ (¬ (sk T n p < n ∧ T (sk T n p) = c) ∧ x = 0 ∧ h1 = h)
theorem V97_ob {h : mxH} {T : Nat → Int32} {n p : Nat} (C : Cl h T n p) : vp_in (mx_i h 101 3) 401 ∧ ((mx_i h 103 (mx_i h 101 3).toNatClampNeg = 1 → (vp_in (mx_i h 104 (mx_i h 101 3).toNatClampNeg) 400 ∧ True)) ∧ (¬ mx_i h 103 (mx_i h 101 3).toNatClampNeg = 1 → True)) := by
  obtain ⟨t, b, s, ht, e3, eb, es, hb, hs, hbs, hw⟩ := Cl_ok C
  rw [e3, nI_clamp (by omega), eb]
  exact ⟨vp_in_nI ht (by decide), fun c => ⟨vp_in_nI (by have := hbs (.inl c); omega) (by decide), trivial⟩, fun _ => trivial⟩
theorem spm_98 {d : Nat} {h : mxH} {Q : mxO → mxH → Prop} {i1 : Int32} (G : mxG h) (x0 : okC h) (k : ∀ x h1, p98 i1 h x h1 → Q (.inl (some (.int x))) h1) : mx_wp (d + 1) 98 0 (mx_fr 98 [.ref 101, .int i1]) [] h Q := by
  obtain ⟨T, n, p, C⟩ := x0
  have o := V97_ob C
  refine tr_98_0 G ⟨o.1, o.2, fun c => k 0 h ⟨mvC_rfl, fun T' n' p' C' s => .inr ⟨fun z => ?_, rfl, rfl⟩⟩, fun c h4 e4 => k 1 h4 ⟨⟨_, e4⟩, fun T' n' p' C' s => .inl ?_⟩⟩
  · rw [V97_i C' s, if_pos z] at c
    exact absurd c (by decide)
  · rw [V97_i C' s] at c
    have z : sk T' n' p' < n' ∧ T' (sk T' n' p') = i1 := Decidable.byContradiction (fun z => c (by rw [if_neg z]))
    refine ⟨z.1, z.2, rfl, ?_⟩
    obtain ⟨t', m', ht', hm', hn', e3', eb', ek', hl', es', hw', hW', mv'⟩ := Cl_tk C'
    have g := sg_nd s
    have := mv' (hl'.mp z.1)
    unfold te at this
    rw [z.2, if_neg g.1, if_neg g.2.1] at this
    rw [e4]; exact this
def p101 (h : mxH) (x : Int32) (h1 : mxH) : Prop := mvC h h1 ∧ ∀ T n p, Cl h T n p → (∃ k, 19 ≤ k ∧ k < 26 ∧ isW T n k (sk T n p) = true ∧ x = nI (981 + k) ∧ Cl h1 T n (sk T n p + mxSl (31 + 2 * k))) ∨ ((∀ k, 19 ≤ k → k < 26 → ¬ isW T n k (sk T n p) = true) ∧ x = -1 ∧ h1 = h)
theorem spm_101 {d : Nat} {h : mxH} {Q : mxO → mxH → Prop} (G : mxG h) (x0 : okC h) (k : ∀ x h1, p101 h x h1 → Q (.inl (some (.int x))) h1) : mx_wp d 101 0 (mx_fr 101 [.ref 101]) [] h Q := by
  obtain ⟨T, n, p, C⟩ := x0
  obtain ⟨t, m, ht, hm, hn, e3, eb, ek, hl, es, hw, hW, mv⟩ := Cl_tk C
  have ct : (mx_i h 101 3).toNatClampNeg = t := by rw [e3, nI_clamp (by omega)]
  refine tr_101_0 G ⟨by rw [e3]; exact vp_in_nI (by omega) (by decide), ?_⟩
  rw [ct]
  refine ⟨by omega, fun c => k _ h ⟨mvC_rfl, fun T' n' p' C' => .inr ⟨fun q h1 h2 w => ?_, rfl, rfl⟩⟩, fun c => ⟨by omega, fun c2 => k _ h ⟨mvC_rfl, fun T' n' p' C' => .inr ⟨fun q h1 h2 w => ?_, rfl, rfl⟩⟩, fun c2 h6 e6 => k _ h6 ⟨⟨_, e6⟩, fun T' n' p' C' => .inl ?_⟩⟩⟩
  · obtain ⟨t', m', ht', hm', hn', e3', eb', ek', hl', es', hw', hW', mv'⟩ := Cl_tk C'
    have ett : t' = t := (nI_eq (by omega) (by omega)).mp (e3'.symm.trans e3)
    subst ett
    have := (hW' q h2).mp w
    omega
  · obtain ⟨t', m', ht', hm', hn', e3', eb', ek', hl', es', hw', hW', mv'⟩ := Cl_tk C'
    have ett : t' = t := (nI_eq (by omega) (by omega)).mp (e3'.symm.trans e3)
    subst ett
    have := (hW' q h2).mp w
    rw [this] at c2
    unfold mxWp at c2
    rw [if_neg (by omega)] at c2
    exact absurd c2 (nI_ne1 (by omega))
  · obtain ⟨t', m', ht', hm', hn', e3', eb', ek', hl', es', hw', hW', mv'⟩ := Cl_tk C'
    have ett : t' = t := (nI_eq (by omega) (by omega)).mp (e3'.symm.trans e3)
    subst ett
    have g : 22 ≤ mx_r h 106 t' := by
      unfold mxWp at c2
      apply Decidable.byContradiction
      intro z
      exact c2 (by rw [if_pos (by omega)])
    obtain ⟨j, hj⟩ : ∃ j, mx_r h 106 t' = 3 + j := ⟨mx_r h 106 t' - 3, by omega⟩
    have w := (hW' j (by omega)).mpr hj
    have i := isW_in (by omega) w
    refine ⟨j, by omega, by omega, w, ?_, ?_⟩
    · rw [hj]; unfold mxWp; rw [if_neg (by omega), show 3 + j + 978 = 981 + j by omega]
    · rw [e6, ← i.2.2.1]
      exact mv' (hl'.mp i.1)
/-- one code more -/
def p23 (b : Nat) (v : Int32) (h h1 : mxH) : Prop := mxU (fun c => c = b ∨ c = b + 4) h h1 ∧ (∀ j, j ≠ 2 → mx_i h1 b j = mx_i h b j) ∧ ∀ c, c < 400 → mx_i h b 2 = nI c → mx_i h1 b 2 = nI (c + 1) ∧ ∀ j, mx_i h1 (b + 4) j = if j = c then v else mx_i h (b + 4) j
theorem spm_23 {d : Nat} {h : mxH} {Q : mxO → mxH → Prop} {b : Nat} {i1 : Int32} (G : mxG h) (hVb : (mxT b).1 = 3) (x0 : cB (mx_i h b 2) 400) (k : ∀ h1, p23 b i1 h h1 → Q (.inl none) h1) : mx_wp d 23 0 (mx_fr 23 [.ref b, .int i1]) [] h Q := by
  obtain ⟨c, hc, e⟩ := x0
  have vp : (((mx_i h b 2) < 400 → (vp_in (mx_i h b 2) 400 ∧ True)) ∧ (¬ (mx_i h b 2) < 400 → True)) := by
    rw [e]
    exact ⟨fun q => ⟨vp_in_nI ((nI_ltI (by omega) (by decide)).mp q) (by decide), trivial⟩, fun _ => trivial⟩
  refine sp_23 G hVb vp (k _ ?_)
  unfold W_23
  rw [e]
  by_cases q : c < 400
  · rw [if_pos (show nI c < 400 from nI_lt q (by decide)), nI_clamp (by omega), wi_ne (by omega), e, nI_1]
    refine ⟨mxU_tr (mxU_wi (.inr rfl)) (mxU_wi (.inl rfl)), fun j hj => ?_, fun c' hc' e' => ?_⟩
    · rw [wi_nj hj, wi_ne (by omega)]
    · have : c' = c := (nI_eq (by omega) (by omega)).mp (e'.symm.trans e)
      subst this
      refine ⟨wi_at rfl rfl, fun j => ?_⟩
      rw [wi_ne (by omega), wi_i]
      by_cases z : j = c'
      · rw [if_pos ⟨rfl, z⟩, if_pos z]
      · rw [if_neg (fun y => z y.2), if_neg z]
  · rw [if_neg (fun z : nI c < 400 => q ((nI_ltI (by omega) (by decide)).mp z))]
    refine ⟨mxU_rfl, fun _ _ => rfl, fun c' hc' e' => ?_⟩
    have : c' = c := (nI_eq (by omega) (by omega)).mp (e'.symm.trans e)
    omega
/-- one line more -/
def p22 (b : Nat) (v w : Int32) (h h1 : mxH) : Prop := mxU (fun c => c = b ∨ c = b + 1 ∨ c = b + 2 ∨ c = b + 3) h h1 ∧ (∀ j, j ≠ 1 → mx_i h1 b j = mx_i h b j) ∧ ∀ c, c < 12 → mx_i h b 1 = nI c → mx_i h1 b 1 = nI (c + 1) ∧ (∀ j, mx_i h1 (b + 1) j = if j = c then v else mx_i h (b + 1) j) ∧ (∀ j, mx_i h1 (b + 2) j = if j = c then w else mx_i h (b + 2) j) ∧ (∀ j, mx_i h1 (b + 3) j = if j = c then mx_i h b 2 else mx_i h (b + 3) j)
theorem spm_22 {d : Nat} {h : mxH} {Q : mxO → mxH → Prop} {b : Nat} {i1 i2 : Int32} (G : mxG h) (hVb : (mxT b).1 = 3) (x0 : cB (mx_i h b 1) 11) (k : ∀ h1, p22 b i1 i2 h h1 → Q (.inl none) h1) : mx_wp d 22 0 (mx_fr 22 [.ref b, .int i1, .int i2]) [] h Q := by
  obtain ⟨c, hc, e⟩ := x0
  have v : vp_in (mx_i h b 1) 12 := by rw [e]; exact vp_in_nI (by omega) (by decide)
  refine sp_22 G hVb ⟨fun _ => ⟨v, ?_, ?_, trivial⟩, fun _ => trivial⟩ (k _ ?_)
  · rw [wi_ne (by omega)]; exact v
  · rw [wi_ne (by omega), wi_ne (by omega)]; exact v
  · unfold W_22
    have n1 : b ≠ b + 1 := by omega
    have n2 : b ≠ b + 2 := by omega
    have n3 : b ≠ b + 3 := by omega
    rw [wi_ne n1, wi_ne n2, wi_ne n1, wi_ne n3, wi_ne n2, wi_ne n1, e, if_pos (show nI c < 12 from nI_lt (b := 12) (by omega) (by decide)), nI_clamp (by omega), nI_1]
    refine ⟨mxU_tr (mxU_tr (mxU_tr (mxU_wi (.inr (.inl rfl))) (mxU_wi (.inr (.inr (.inl rfl))))) (mxU_wi (.inr (.inr (.inr rfl))))) (mxU_wi (.inl rfl)), fun j hj => ?_, fun c' hc' e' => ?_⟩
    · rw [wi_nj hj, wi_ne n3, wi_ne n2, wi_ne n1]
    · have : c' = c := (nI_eq (by omega) (by omega)).mp (e'.symm.trans e)
      subst this
      refine ⟨wi_at rfl rfl, fun j => ?_, fun j => ?_, fun j => ?_⟩
      · rw [wi_ne (by omega), wi_ne (by omega), wi_ne (by omega), wi_i]
        by_cases z : j = c'
        · rw [if_pos ⟨rfl, z⟩, if_pos z]
        · rw [if_neg (fun y => z y.2), if_neg z]
      · rw [wi_ne (by omega), wi_ne (by omega), wi_i, wi_ne (by omega)]
        by_cases z : j = c'
        · rw [if_pos ⟨rfl, z⟩, if_pos z]
        · rw [if_neg (fun y => z y.2), if_neg z]
      · rw [wi_ne (by omega), wi_i, wi_ne (by omega), wi_ne (by omega)]
        by_cases z : j = c'
        · rw [if_pos ⟨rfl, z⟩, if_pos z]
        · rw [if_neg (fun y => z y.2), if_neg z]
