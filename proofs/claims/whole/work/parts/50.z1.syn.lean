/-! THE LAW'S TEXT: what is read of it, as codes; and the class's way of reading it, with a stack of what is open -/
def wl (k : Nat) : Nat := mxSl (31 + 2 * k)
def sgn (T : Nat → Int32) (n : Nat) (c : Int32) (p : Nat) : Bool := decide (sk T n p < n ∧ T (sk T n p) = c)
def wrd (T : Nat → Int32) (n k p : Nat) : Bool := isW T n k (sk T n p)
abbrev PR : Type := Sum Nat (List Int32 × Nat)
def bn (x : Option PR) (k : List Int32 → Nat → Option PR) : Option PR := match x with
  | none => none
  | some (.inl e) => some (.inl e)
  | some (.inr (s, q)) => k s q
def pW (T : Nat → Int32) (n b : Nat) : Sum Nat (Int32 × Nat) :=
  if isW T n 19 b = true then .inr (1000, b + wl 19) else if isW T n 20 b = true then .inr (1001, b + wl 20) else if isW T n 21 b = true then .inr (1002, b + wl 21) else if isW T n 22 b = true then .inr (1003, b + wl 22) else if isW T n 23 b = true then .inr (1004, b + wl 23) else if isW T n 24 b = true then .inr (1005, b + wl 24) else if isW T n 25 b = true then .inr (1006, b + wl 25) else .inl b
def pPt (T : Nat → Int32) (n p : Nat) : Sum Nat (Int32 × Nat) := if sk T n p < rn isDg T n (sk T n p) then (if rn isDg T n (sk T n p) ≤ sk T n p + 3 then .inr (dgs T (sk T n p) (rn isDg T n (sk T n p)), rn isDg T n (sk T n p)) else .inl (sk T n p)) else pW T n (sk T n p)
def pSl (T : Nat → Int32) (n : Nat) : Nat → List Int32 → Nat → Option PR
  | 0, _, _ => none
  | f + 1, s, q => if sgn T n 43 q = true then (match pPt T n (sk T n q + 1) with
    | .inl e => some (.inl e)
    | .inr (c, q2) => pSl T n f (s ++ [c, 1010]) q2) else some (.inr (s, sk T n q))
def pSm (T : Nat → Int32) (n p : Nat) : PR := match pPt T n p with
  | .inl e => .inl e
  | .inr (c, q) => (pSl T n 400 [c] q).getD (.inl 0)
def pCm (T : Nat → Int32) (n : Nat) (c : Int32) (a : List Int32) (q : Nat) : PR := match pSm T n (sk T n q + 1) with
  | .inl e => .inl e
  | .inr (b, q2) => .inr (a ++ b ++ [c], q2)
def pPl (T : Nat → Int32) (n p : Nat) : PR := if wrd T n 17 p = true then .inr ([1007], sk T n p + wl 17) else if wrd T n 18 p = true then .inr ([1008], sk T n p + wl 18) else match pSm T n p with
  | .inl e => .inl e
  | .inr (a, q) => if sgn T n 60 q = true then pCm T n 1011 a q else if sgn T n 62 q = true then pCm T n 1012 a q else .inl (sk T n q)
/-- by the ways of reading: 0 an atom, 1 atoms joined by and, 2 what follows one of these, 3 joined by or, 4 what follows one of these -/
def pX (T : Nat → Int32) (n : Nat) : Nat → Nat → Nat → List Int32 → Nat → Option PR
  | 0, _, _, _, _ => none
  | f + 1, 0, dp, _, p => if wrd T n 16 p = true then (if dp = 6 then some (.inl (sk T n p)) else bn (pX T n f 0 (dp + 1) [] (sk T n p + wl 16)) (fun s q => some (.inr (s ++ [1009], q)))) else if sgn T n 40 p = true then (if dp = 6 then some (.inl (sk T n p)) else bn (pX T n f 3 (dp + 1) [] (sk T n p + 1)) (fun s q => if sgn T n 41 q = true then some (.inr (s, sk T n q + 1)) else some (.inl (sk T n q)))) else some (pPl T n p)
  | f + 1, 1, dp, _, p => bn (pX T n f 0 dp [] p) (fun s q => pX T n f 2 dp s q)
  | f + 1, 2, dp, s, q => if wrd T n 15 q = true then bn (pX T n f 0 dp [] (sk T n q + wl 15)) (fun w q2 => pX T n f 2 dp (s ++ w ++ [1013]) q2) else some (.inr (s, sk T n q))
  | f + 1, 3, dp, _, p => bn (pX T n f 1 dp [] p) (fun s q => pX T n f 4 dp s q)
  | f + 1, _ + 4, dp, s, q => if wrd T n 14 q = true then bn (pX T n f 1 dp [] (sk T n q + wl 14)) (fun w q2 => pX T n f 4 dp (s ++ w ++ [1014]) q2) else some (.inr (s, sk T n q))
/-- the class's stack of what is open: 0 a bracket, 1009 not, 1013 and, 1014 or -/
def dpK : List Int32 → Nat
  | [] => 0
  | x :: K => dpK K + if x = 0 ∨ x = 1009 then 1 else 0
def brK : List Int32 → Nat
  | [] => 0
  | x :: K => brK K + if x = 0 then 1 else 0
def opn (T : Nat → Int32) (n : Nat) : Nat → Nat → List Int32 → Sum Nat (Nat × List Int32)
  | 0, p, _ => .inl (sk T n p)
  | j + 1, p, K => if wrd T n 16 p = true then (if 6 ≤ dpK K then .inl (sk T n p) else opn T n j (sk T n p + wl 16) (1009 :: K)) else if sgn T n 40 p = true then (if 6 ≤ dpK K then .inl (sk T n p) else opn T n j (sk T n p + 1) (0 :: K)) else .inr (p, K)
def clN : List Int32 → List Int32 → List Int32 × List Int32
  | [], o => ([], o)
  | x :: K, o => if x = 1009 then clN K (o ++ [1009]) else (x :: K, o)
def clJ (c : Int32) : List Int32 → List Int32 → List Int32 × List Int32
  | [], o => ([], o)
  | x :: K, o => if x = 1013 ∨ (x = 1014 ∧ c = 1014) then clJ c K (o ++ [x]) else (x :: K, o)
def clB (T : Nat → Int32) (n : Nat) : Nat → Nat → List Int32 → List Int32 → Nat × List Int32 × List Int32
  | 0, q, K, o => (q, K, o)
  | j + 1, q, K, o => if sgn T n 41 q = true then clB T n j (sk T n q + 1) (clN (clJ 1014 K o).1.tail (clJ 1014 K o).2).1 (clN (clJ 1014 K o).1.tail (clJ 1014 K o).2).2 else (q, K, o)
def SXb (k : Nat → List Int32 → List Int32 → Option PR) (T : Nat → Int32) (n : Nat) (b : Nat × List Int32 × List Int32) : Option PR := if wrd T n 15 b.1 = true then k (sk T n b.1 + wl 15) (1013 :: (clJ 1013 b.2.1 b.2.2).1) (clJ 1013 b.2.1 b.2.2).2 else if wrd T n 14 b.1 = true then k (sk T n b.1 + wl 14) (1014 :: (clJ 1014 b.2.1 b.2.2).1) (clJ 1014 b.2.1 b.2.2).2 else if brK b.2.1 = 0 then some (.inr ((clJ 1014 b.2.1 b.2.2).2, sk T n b.1)) else some (.inl (sk T n b.1))
def SX (k : Nat → List Int32 → List Int32 → Option PR) (T : Nat → Int32) (n q : Nat) (K o : List Int32) : Option PR := SXb k T n (clB T n (brK (clN K o).1) q (clN K o).1 (clN K o).2)
def SY (T : Nat → Int32) (n : Nat) : Nat → Nat → List Int32 → List Int32 → Option PR
  | 0, _, _, _ => none
  | f + 1, p, K, o => match opn T n (7 - dpK K) p K with
    | .inl e => some (.inl e)
    | .inr (p1, K1) => match pPl T n p1 with
      | .inl e => some (.inl e)
      | .inr (s, q) => SX (SY T n f) T n q K1 (o ++ s)
section
variable {T : Nat → Int32} {n : Nat}
theorem wl_pos {k : Nat} (hk : k < 26) : 1 ≤ wl k := (sb_all k hk).1.1
theorem wrd_in {k p : Nat} (hk : k < 26) (w : wrd T n k p = true) : sk T n p < n ∧ sk T n p + wl k ≤ n := by
  have := isW_in hk w
  exact ⟨this.1, this.2.2.2⟩
theorem sgn_in {c : Int32} {p : Nat} (w : sgn T n c p = true) : sk T n p < n ∧ T (sk T n p) = c := of_decide_eq_true w
theorem sgn_wrd {c : Int32} {k p : Nat} (hk : k < 26) (hc : isSg c) (w : wrd T n k p = true) : ¬ sgn T n c p = true := by
  intro s
  have a := isW_in hk w
  have b := sgn_in s
  rw [b.2] at a
  exact (sg_nd hc).2.1 a.2.1
theorem sk_ge (p : Nat) : p ≤ sk T n p := rn_ge p
theorem pW_pr {b q : Nat} {c : Int32} (h : pW T n b = .inr (c, q)) : b < q ∧ q ≤ n := by
  unfold pW at h
  have key : ∀ k, k < 26 → isW T n k b = true → b < b + wl k ∧ b + wl k ≤ n := fun k hk w => ⟨by have := wl_pos hk; omega, (isW_in hk w).2.2.2⟩
  repeat' split at h
  all_goals first | (cases h; rename_i w; exact key _ (by decide) w) | cases h
theorem pPt_pr {p q : Nat} {c : Int32} (hp : p ≤ n) (h : pPt T n p = .inr (c, q)) : sk T n p < q ∧ q ≤ n := by
  unfold pPt at h
  split at h
  · split at h
    · cases h; rename_i a b; exact ⟨a, rn_le (rn_le hp)⟩
    · cases h
  · exact pW_pr h
theorem pSl_pr : ∀ (f : Nat) {s s2 : List Int32} {q q2 : Nat}, q ≤ n → pSl T n f s q = some (.inr (s2, q2)) → q ≤ q2 ∧ q2 ≤ n := by
  intro f
  induction f with
  | zero => intro s s2 q q2 _ h; cases h
  | succ f ih =>
    intro s s2 q q2 hq h
    unfold pSl at h
    split at h
    · rename_i w
      have w := sgn_in w
      split at h
      · cases h
      · rename_i c q3 e
        have := pPt_pr (by omega) e
        have i := ih this.2 h
        have g := sk_ge (T := T) (n := n) q
        have g2 := sk_ge (T := T) (n := n) (sk T n q + 1)
        omega
    · cases h; exact ⟨sk_ge q, rn_le hq⟩
theorem pSl_tot : ∀ (f : Nat) {s : List Int32} {q : Nat}, q ≤ n → n - q < f → ∃ r, pSl T n f s q = some r := by
  intro f
  induction f with
  | zero => intro s q _ h; omega
  | succ f ih =>
    intro s q hq h
    unfold pSl
    split
    · rename_i w
      have w := sgn_in w
      split
      · exact ⟨_, rfl⟩
      · rename_i c q3 e
        have := pPt_pr (by omega) e
        have g := sk_ge (T := T) (n := n) q
        have g2 := sk_ge (T := T) (n := n) (sk T n q + 1)
        exact ih this.2 (by omega)
    · exact ⟨_, rfl⟩
theorem pSm_pr {p q : Nat} {s : List Int32} (hn : n ≤ 400) (hp : p ≤ n) (h : pSm T n p = .inr (s, q)) : sk T n p < q ∧ q ≤ n := by
  unfold pSm at h
  split at h
  · cases h
  · rename_i c q1 e
    have a := pPt_pr hp e
    have g := sk_ge (T := T) (n := n) p
    obtain ⟨r, hr⟩ := pSl_tot (T := T) 400 (s := [c]) a.2 (by omega)
    rw [hr] at h
    have : r = .inr (s, q) := h
    subst this
    have := pSl_pr _ a.2 hr
    omega
theorem pCm_pr {p q : Nat} {c : Int32} {a s : List Int32} (hn : n ≤ 400) (hp : sk T n p < n) (h : pCm T n c a p = .inr (s, q)) : p < q ∧ q ≤ n := by
  unfold pCm at h
  split at h
  · cases h
  · rename_i b q2 e
    have := pSm_pr hn (by omega) e
    cases h
    have g := sk_ge (T := T) (n := n) p
    have g2 := sk_ge (T := T) (n := n) (sk T n p + 1)
    omega
theorem pPl_pr {p q : Nat} {s : List Int32} (hn : n ≤ 400) (hp : p ≤ n) (h : pPl T n p = .inr (s, q)) : sk T n p < q ∧ q ≤ n := by
  unfold pPl at h
  split at h
  · rename_i w; cases h
    have := wrd_in (by decide) w
    have := wl_pos (k := 17) (by decide)
    omega
  · split at h
    · rename_i w; cases h
      have := wrd_in (by decide) w
      have := wl_pos (k := 18) (by decide)
      omega
    · split at h
      · cases h
      · rename_i a q1 e
        have i := pSm_pr hn hp e
        have g := sk_ge (T := T) (n := n) q1
        split at h
        · rename_i w
          have := pCm_pr hn (sgn_in w).1 h
          omega
        · split at h
          · rename_i w
            have := pCm_pr hn (sgn_in w).1 h
            omega
          · cases h
theorem bn_inr {x : Option PR} {k : List Int32 → Nat → Option PR} {r : PR} (h : bn x k = some r) : (∃ e, x = some (.inl e) ∧ r = .inl e) ∨ ∃ s q, x = some (.inr (s, q)) ∧ k s q = some r := by
  unfold bn at h
  split at h
  · cases h
  · cases h; exact .inl ⟨_, rfl, rfl⟩
  · exact .inr ⟨_, _, rfl, h⟩
/-- what is read lies behind where it began -/
theorem pX_pr (hn : n ≤ 400) : ∀ (f m dp : Nat) (s : List Int32) (p : Nat) (s2 : List Int32) (q : Nat), p ≤ n → pX T n f m dp s p = some (.inr (s2, q)) → ((m = 2 ∨ 4 ≤ m) → p ≤ q ∧ q ≤ n) ∧ (¬ (m = 2 ∨ 4 ≤ m) → sk T n p < q ∧ q ≤ n) := by
  intro f
  induction f with
  | zero => intro m dp s p s2 q _ h; cases h
  | succ f ih =>
    intro m dp s p s2 q hp h
    have g := sk_ge (T := T) (n := n) p
    match m, h with
    | 0, h =>
      refine ⟨fun c => by omega, fun _ => ?_⟩
      unfold pX at h
      split at h
      · rename_i w
        have w := wrd_in (by decide) w
        have w2 := wl_pos (k := 16) (by decide)
        split at h
        · cases h
        · rcases bn_inr h with ⟨e, e1, e2⟩ | ⟨s1, q1, e1, e2⟩
          · cases e2
          · cases e2
            have := (ih _ _ _ _ _ _ (by omega) e1).2 (by omega)
            have g2 := sk_ge (T := T) (n := n) (sk T n p + wl 16)
            omega
      · split at h
        · rename_i w
          have w := sgn_in w
          split at h
          · cases h
          · rcases bn_inr h with ⟨e, e1, e2⟩ | ⟨s1, q1, e1, e2⟩
            · cases e2
            · have := (ih _ _ _ _ _ _ (by omega) e1).2 (by omega)
              have g2 := sk_ge (T := T) (n := n) (sk T n p + 1)
              have g3 := sk_ge (T := T) (n := n) q1
              split at e2
              · rename_i w2
                have := (sgn_in w2).1
                cases e2
                omega
              · cases e2
        · exact pPl_pr hn hp (Option.some.inj h)
    | 1, h =>
      refine ⟨fun c => by omega, fun _ => ?_⟩
      unfold pX at h
      rcases bn_inr h with ⟨e, e1, e2⟩ | ⟨s1, q1, e1, e2⟩
      · cases e2
      · have a := (ih _ _ _ _ _ _ hp e1).2 (by omega)
        have b := (ih _ _ _ _ _ _ a.2 e2).1 (by omega)
        omega
    | 2, h =>
      refine ⟨fun _ => ?_, fun c => by omega⟩
      unfold pX at h
      split at h
      · rename_i w
        have w := wrd_in (by decide) w
        rcases bn_inr h with ⟨e, e1, e2⟩ | ⟨s1, q1, e1, e2⟩
        · cases e2
        · have a := (ih _ _ _ _ _ _ (by omega) e1).2 (by omega)
          have b := (ih _ _ _ _ _ _ a.2 e2).1 (by omega)
          have g2 := sk_ge (T := T) (n := n) (sk T n p + wl 15)
          omega
      · cases h; exact ⟨g, rn_le hp⟩
    | 3, h =>
      refine ⟨fun c => by omega, fun _ => ?_⟩
      unfold pX at h
      rcases bn_inr h with ⟨e, e1, e2⟩ | ⟨s1, q1, e1, e2⟩
      · cases e2
      · have a := (ih _ _ _ _ _ _ hp e1).2 (by omega)
        have b := (ih _ _ _ _ _ _ a.2 e2).1 (by omega)
        omega
    | m + 4, h =>
      refine ⟨fun _ => ?_, fun c => by omega⟩
      unfold pX at h
      split at h
      · rename_i w
        have w := wrd_in (by decide) w
        rcases bn_inr h with ⟨e, e1, e2⟩ | ⟨s1, q1, e1, e2⟩
        · cases e2
        · have a := (ih _ _ _ _ _ _ (by omega) e1).2 (by omega)
          have b := (ih _ _ _ _ _ _ a.2 e2).1 (by omega)
          have g2 := sk_ge (T := T) (n := n) (sk T n p + wl 14)
          omega
      · cases h; exact ⟨g, rn_le hp⟩
theorem bn_tot {x : Option PR} {k : List Int32 → Nat → Option PR} (h : ∃ r, x = some r) (hk : ∀ s q, x = some (.inr (s, q)) → ∃ r, k s q = some r) : ∃ r, bn x k = some r := by
  obtain ⟨r, rfl⟩ := h
  match r with
  | .inl e => exact ⟨_, rfl⟩
  | .inr (s, q) => exact hk s q rfl
/-- so many steps are enough -/
theorem pX_tot (hn : n ≤ 400) : ∀ (f m dp : Nat) (s : List Int32) (p : Nat), p ≤ n → m ≤ 4 → 3 * (n - p) + (if m = 0 then 1 else if m = 1 then 2 else if m = 2 then 1 else 3) ≤ f → ∃ r, pX T n f m dp s p = some r := by
  intro f
  induction f with
  | zero => intro m dp s p _ _ h; split at h <;> (try split at h) <;> (try split at h) <;> omega
  | succ f ih =>
    intro m dp s p hp hm h
    have g := sk_ge (T := T) (n := n) p
    match m, h with
    | 0, h =>
      rw [if_pos rfl] at h
      unfold pX
      split
      · rename_i w
        have w := wrd_in (by decide) w
        have w2 := wl_pos (k := 16) (by decide)
        split
        · exact ⟨_, rfl⟩
        · exact bn_tot (ih 0 _ _ _ (by omega) (by omega) (by rw [if_pos rfl]; omega)) (fun s q _ => ⟨_, rfl⟩)
      · split
        · rename_i w
          have w := sgn_in w
          split
          · exact ⟨_, rfl⟩
          · refine bn_tot (ih 3 _ _ _ (by omega) (by omega) (by rw [if_neg (by decide), if_neg (by decide), if_neg (by decide)]; omega)) (fun s q _ => ?_)
            split <;> exact ⟨_, rfl⟩
        · exact ⟨_, rfl⟩
    | 1, h =>
      rw [if_neg (by decide), if_pos rfl] at h
      unfold pX
      refine bn_tot (ih 0 _ _ _ hp (by omega) (by rw [if_pos rfl]; omega)) (fun s q e => ?_)
      have a := (pX_pr hn _ _ _ _ _ _ _ hp e).2 (by omega)
      exact ih 2 _ _ _ a.2 (by omega) (by rw [if_neg (by decide), if_neg (by decide), if_pos rfl]; omega)
    | 2, h =>
      rw [if_neg (by decide), if_neg (by decide), if_pos rfl] at h
      unfold pX
      split
      · rename_i w
        have w := wrd_in (by decide) w
        have w2 := wl_pos (k := 15) (by decide)
        refine bn_tot (ih 0 _ _ _ (by omega) (by omega) (by rw [if_pos rfl]; omega)) (fun s q e => ?_)
        have a := (pX_pr hn _ _ _ _ _ _ _ (by omega) e).2 (by omega)
        have g2 := sk_ge (T := T) (n := n) (sk T n p + wl 15)
        exact ih 2 _ _ _ a.2 (by omega) (by rw [if_neg (by decide), if_neg (by decide), if_pos rfl]; omega)
      · exact ⟨_, rfl⟩
    | 3, h =>
      rw [if_neg (by decide), if_neg (by decide), if_neg (by decide)] at h
      unfold pX
      refine bn_tot (ih 1 _ _ _ hp (by omega) (by rw [if_neg (by decide), if_pos rfl]; omega)) (fun s q e => ?_)
      have a := (pX_pr hn _ _ _ _ _ _ _ hp e).2 (by omega)
      exact ih 4 _ _ _ a.2 (by omega) (by rw [if_neg (by decide), if_neg (by decide), if_neg (by decide)]; omega)
    | m + 4, h =>
      obtain rfl : m = 0 := by omega
      rw [if_neg (by decide), if_neg (by decide), if_neg (by decide)] at h
      unfold pX
      split
      · rename_i w
        have w := wrd_in (by decide) w
        have w2 := wl_pos (k := 14) (by decide)
        refine bn_tot (ih 1 _ _ _ (by omega) (by omega) (by rw [if_neg (by decide), if_pos rfl]; omega)) (fun s q e => ?_)
        have a := (pX_pr hn _ _ _ _ _ _ _ (by omega) e).2 (by omega)
        have g2 := sk_ge (T := T) (n := n) (sk T n p + wl 14)
        exact ih 4 _ _ _ a.2 (by omega) (by rw [if_neg (by decide), if_neg (by decide), if_neg (by decide)]; omega)
      · exact ⟨_, rfl⟩
end
