/-! SHARE, PURE: what can be given, person by person -/
def suN (f : Nat → Nat) : Nat → Nat
  | 0 => 0
  | n + 1 => suN f n + f n
theorem suN_congr {f g : Nat → Nat} : ∀ {n : Nat}, (∀ z, z < n → f z = g z) → suN f n = suN g n := by
  intro n
  induction n with
  | zero => intro _; rfl
  | succ n ih =>
    intro e
    show suN f n + f n = suN g n + g n
    rw [ih (fun z hz => e z (by omega)), e n (by omega)]
theorem suN_add {f g : Nat → Nat} {y x : Nat} : ∀ {n : Nat}, (∀ z, z < n → f z = g z + (if z = y then x else 0)) → suN f n = suN g n + (if y < n then x else 0) := by
  intro n
  induction n with
  | zero => intro _; rfl
  | succ n ih =>
    intro e
    show suN f n + f n = suN g n + g n + _
    rw [ih (fun z hz => e z (by omega)), e n (by omega)]
    by_cases q : n = y
    · rw [if_pos q, if_neg (by omega), if_pos (by omega)]; omega
    · rw [if_neg q]
      by_cases q2 : y < n
      · rw [if_pos q2, if_pos (by omega)]; omega
      · rw [if_neg q2, if_neg (by omega)]; omega
def wS (w : Nat → Nat) (P : Nat → Bool) : Nat := suN (fun z => if P z = true then w z else 0) 10
/-- with one more -/
def adB (y : Nat) (S : Nat → Bool) : Nat → Bool := fun z => decide (z = y) || S z
def dfB (S P : Nat → Bool) : Nat → Bool := fun z => S z && !P z
section
variable {w : Nat → Nat}
theorem wS_congr {P P' : Nat → Bool} (e : ∀ z, z < 10 → P z = P' z) : wS w P = wS w P' := suN_congr (fun z hz => by rw [e z hz])
theorem wS_ad {P : Nat → Bool} {y : Nat} (hy : y < 10) (n : P y = false) : wS w (adB y P) = wS w P + w y := by
  unfold wS
  rw [suN_add (f := fun z => if adB y P z = true then w z else 0) (g := fun z => if P z = true then w z else 0) (y := y) (x := w y) (fun z _ => ?_), if_pos hy]
  unfold adB
  by_cases q : z = y
  · rw [if_pos q, q, n]; simp
  · rw [if_neg q, decide_eq_false q]; simp
end
section
variable (w : Nat → Nat)
def FM : Nat → (Nat → Bool) → (Nat → Nat) → Prop
  | 0, S, _ => ∀ z, z < 10 → S z = false
  | k + 1, S, R => ∃ P : Nat → Bool, (∀ z, P z = true → S z = true) ∧ wS w P ≤ R k ∧ FM k (dfB S P) R
end
section
variable {w : Nat → Nat}
theorem FM_congr : ∀ {k : Nat} {S S' : Nat → Bool} {R R' : Nat → Nat}, (∀ z, z < 10 → S z = S' z) → (∀ i, i < k → R i = R' i) → FM w k S R → FM w k S' R' := by
  intro k
  induction k with
  | zero => intro S S' R R' e _ h z hz; rw [← e z hz]; exact h z hz
  | succ k ih =>
    intro S S' R R' e eR ⟨P, h1, h2, h3⟩
    refine ⟨fun z => P z && S' z, fun z hz => ?_, ?_, ih (fun z hz => ?_) (fun i hi => eR i (by omega)) h3⟩
    · simp only [Bool.and_eq_true] at hz; exact hz.2
    · rw [← eR k (by omega), ← wS_congr (P := P) (fun z hz => ?_)]
      · exact h2
      · rw [← e z hz]
        cases hp : P z with
        | false => rfl
        | true => rw [h1 z hp]; rfl
    · unfold dfB
      dsimp only
      rw [← e z hz]
      cases P z <;> cases S z <;> rfl
theorem FM_up : ∀ {c : Nat} {S : Nat → Bool} {R : Nat → Nat} {y : Nat}, y < 10 → S y = false → (FM w c (adB y S) R ↔ ∃ i, i < c ∧ w y ≤ R i ∧ FM w c S (suB R i (w y))) := by
  intro c
  induction c with
  | zero =>
    intro S R y hy n
    constructor
    · intro h
      have := h y hy
      unfold adB at this
      simp at this
    · rintro ⟨i, hi, _⟩; omega
  | succ c ih =>
    intro S R y hy n
    constructor
    · rintro ⟨P, h1, h2, h3⟩
      cases hp : P y with
      | true =>
        -- the last one has it
        have e1 : ∀ z, z < 10 → P z = adB y (fun z => P z && !decide (z = y)) z := by
          intro z _
          unfold adB
          by_cases q : z = y
          · rw [q, hp]; simp
          · simp [q]
        have e2 := wS_congr (w := w) e1
        rw [wS_ad hy (by simp)] at e2
        refine ⟨c, by omega, by omega, fun z => P z && !decide (z = y), fun z hz => ?_, ?_, FM_congr (fun z hz => ?_) (fun i hi => ?_) h3⟩
        · simp at hz
          have := h1 z hz.1
          unfold adB at this
          rw [decide_eq_false hz.2] at this
          simpa using this
        · unfold suB
          rw [if_pos rfl]
          omega
        · unfold dfB adB
          by_cases q : z = y
          · rw [q, hp, n]; simp
          · simp [q]
        · unfold suB
          rw [if_neg (by omega)]
      | false =>
        have h4 : FM w c (adB y (dfB S P)) R := FM_congr (fun z hz => by
          unfold dfB adB
          by_cases q : z = y
          · rw [q, hp]; simp
          · rw [decide_eq_false q]; simp) (fun _ _ => rfl) h3
        obtain ⟨i, hi, a, b⟩ := (ih hy (by unfold dfB; rw [n]; rfl)).mp h4
        refine ⟨i, by omega, a, P, fun z hz => ?_, ?_, b⟩
        · have := h1 z hz
          unfold adB at this
          by_cases q : z = y
          · rw [q, hp] at hz; exact absurd hz (by decide)
          · rw [decide_eq_false q] at this
            simpa using this
        · unfold suB
          rw [if_neg (by omega)]; exact h2
    · rintro ⟨i, hi, a, P, h1, h2, h3⟩
      have py : P y = false := by
        cases hp : P y with
        | false => rfl
        | true => rw [h1 y hp] at n; exact absurd n (by decide)
      by_cases q : i = c
      · subst q
        refine ⟨adB y P, fun z hz => ?_, ?_, FM_congr (fun z hz => ?_) (fun k hk => ?_) h3⟩
        · unfold adB at hz ⊢
          simp at hz ⊢
          exact hz.imp id (h1 z)
        · rw [wS_ad hy py]
          unfold suB at h2
          rw [if_pos rfl] at h2
          omega
        · unfold dfB adB
          by_cases q : z = y
          · rw [q, n]; simp
          · rw [decide_eq_false q]; simp
        · unfold suB
          rw [if_neg (by omega)]
      · refine ⟨P, fun z hz => ?_, ?_, ?_⟩
        · unfold adB
          rw [h1 z hz]; simp
        · unfold suB at h2
          rw [if_neg (fun z => q z.symm)] at h2
          exact h2
        · have h4 := (ih (R := R) hy (show dfB S P y = false by unfold dfB; rw [n]; rfl)).mpr ⟨i, by omega, a, h3⟩
          refine FM_congr (fun z hz => ?_) (fun _ _ => rfl) h4
          unfold dfB adB
          by_cases q2 : z = y
          · rw [q2, py]; simp
          · rw [decide_eq_false q2]; simp
/-- the stones from s on, n of them, in the order zz -/
def tlB (zz : Nat → Nat) : Nat → Nat → Nat → Bool
  | 0, _, _ => false
  | n + 1, s, z => decide (z = zz s) || tlB zz n (s + 1) z
theorem tlB_iff {zz : Nat → Nat} {z : Nat} : ∀ {n s : Nat}, tlB zz n s z = true ↔ ∃ k, s ≤ k ∧ k < s + n ∧ z = zz k := by
  intro n
  induction n with
  | zero =>
    intro s
    constructor
    · intro h; exact absurd h (by unfold tlB; decide)
    · rintro ⟨k, a, b, _⟩; omega
  | succ n ih =>
    intro s
    unfold tlB
    rw [Bool.or_eq_true, ih]
    constructor
    · rintro (h | ⟨k, a, b, e⟩)
      · exact ⟨s, by omega, by omega, of_decide_eq_true h⟩
      · exact ⟨k, by omega, by omega, e⟩
    · rintro ⟨k, a, b, e⟩
      by_cases q : k = s
      · exact .inl (decide_eq_true (by rw [e, q]))
      · exact .inr ⟨k, by omega, by omega, e⟩
theorem FM_Fz {c m : Nat} {zz : Nat → Nat} (h10 : ∀ k, k < m → zz k < 10) (inj : ∀ i j, i < j → j < m → ¬ zz i = zz j) : ∀ {n s : Nat} {R : Nat → Nat}, s + n ≤ m → (FM w c (tlB zz n s) R ↔ Fz c (fun k => w (zz k)) n s R) := by
  intro n
  induction n with
  | zero =>
    intro s R _
    constructor
    · intro _; exact trivial
    · intro _
      have : ∀ (c : Nat) (S : Nat → Bool), (∀ z, S z = false) → FM w c S R := by
        intro c
        induction c with
        | zero => intro S h z _; exact h z
        | succ c ih =>
          intro S h
          refine ⟨fun _ => false, fun z hz => Bool.noConfusion hz, ?_, ih _ (fun z => by unfold dfB; rw [h z]; rfl)⟩
          have : wS w (fun _ => false) = 0 := rfl
          omega
      exact this c _ (fun z => rfl)
  | succ n ih =>
    intro s R hm
    have e : tlB zz (n + 1) s = adB (zz s) (tlB zz n (s + 1)) := rfl
    have nf : tlB zz n (s + 1) (zz s) = false := by
      cases q : tlB zz n (s + 1) (zz s) with
      | false => rfl
      | true =>
        obtain ⟨k, a, b, z⟩ := tlB_iff.mp q
        exact absurd z (inj s k (by omega) (by omega))
    rw [e, FM_up (h10 s (by omega)) nf]
    constructor
    · rintro ⟨i, hi, a, b⟩
      exact ⟨i, hi, a, (ih (by omega)).mp b⟩
    · rintro ⟨i, hi, a, b⟩
      exact ⟨i, hi, a, (ih (by omega)).mpr b⟩
end
