/-! SHARE, PURE: the search of the class -/
def upA (L : Nat → Nat) (i x : Nat) : Nat → Nat := fun k => if k = i then L k + x else L k
def suB (R : Nat → Nat) (i x : Nat) : Nat → Nat := fun k => if k = i then R k - x else R k
def setN (g : Nat → Nat) (i x : Nat) : Nat → Nat := fun k => if k = i then x else g k
def mxF (L : Nat → Nat) : Nat → Nat
  | 0 => 0
  | n + 1 => max (mxF L n) (L n)
/-- the first place of the least -/
def amN (f : Nat → Nat) : Nat → Nat
  | 0 => 0
  | j + 1 => if f j < f (amN f j) then j else amN f j
theorem amN_lt {f : Nat → Nat} : ∀ {j : Nat}, 0 < j → amN f j < j := by
  intro j
  induction j with
  | zero => intro h; omega
  | succ j ih =>
    intro _
    show (if f j < f (amN f j) then j else amN f j) < j + 1
    by_cases c : f j < f (amN f j)
    · rw [if_pos c]; omega
    · rw [if_neg c]
      by_cases z : j = 0
      · subst z; exact Nat.zero_lt_one
      · have := ih (by omega); omega
theorem amN_le {f : Nat → Nat} : ∀ {j i : Nat}, i < j → f (amN f j) ≤ f i := by
  intro j
  induction j with
  | zero => intro i h; omega
  | succ j ih =>
    intro i hi
    show f (if f j < f (amN f j) then j else amN f j) ≤ f i
    by_cases c : f j < f (amN f j)
    · rw [if_pos c]
      by_cases q : i = j
      · rw [q]; exact Nat.le_refl _
      · have := ih (i := i) (by omega); omega
    · rw [if_neg c]
      by_cases q : i = j
      · rw [q]; omega
      · exact ih (by omega)
/-- the first: everything ahead of it is greater -/
theorem amN_fst {f : Nat → Nat} : ∀ {j i : Nat}, i < amN f j → f (amN f j) < f i := by
  intro j
  induction j with
  | zero => intro i h; exact absurd h (Nat.not_lt_zero _)
  | succ j ih =>
    intro i hi
    have e : amN f (j + 1) = if f j < f (amN f j) then j else amN f j := rfl
    rw [e] at hi ⊢
    by_cases c : f j < f (amN f j)
    · rw [if_pos c] at hi ⊢
      have := amN_le (f := f) hi; omega
    · rw [if_neg c] at hi ⊢
      exact ih hi
theorem mxF_le {L : Nat → Nat} : ∀ {n i : Nat}, i < n → L i ≤ mxF L n := by
  intro n
  induction n with
  | zero => intro i h; omega
  | succ n ih =>
    intro i hi
    show L i ≤ max (mxF L n) (L n)
    by_cases q : i = n
    · rw [q]; exact Nat.le_max_right _ _
    · exact Nat.le_trans (ih (by omega)) (Nat.le_max_left _ _)
theorem mxF_lub {L : Nat → Nat} {B : Nat} : ∀ {n : Nat}, (∀ i, i < n → L i ≤ B) → mxF L n ≤ B := by
  intro n
  induction n with
  | zero => intro _; exact Nat.zero_le _
  | succ n ih =>
    intro w
    exact Nat.max_le.mpr ⟨ih (fun i hi => w i (by omega)), w n (by omega)⟩
theorem mxF_up {L : Nat → Nat} {n i x : Nat} (hi : i < n) : mxF (upA L i x) n = max (mxF L n) (L i + x) := by
  apply Nat.le_antisymm
  · refine mxF_lub (fun k hk => ?_)
    unfold upA
    by_cases q : k = i
    · rw [if_pos q, q]; exact Nat.le_max_right _ _
    · rw [if_neg q]; exact Nat.le_trans (mxF_le hk) (Nat.le_max_left _ _)
  · refine Nat.max_le.mpr ⟨mxF_lub (fun k hk => ?_), ?_⟩
    · refine Nat.le_trans ?_ (mxF_le (L := upA L i x) hk)
      unfold upA
      by_cases q : k = i
      · rw [if_pos q]; omega
      · rw [if_neg q]; exact Nat.le_refl _
    · have := mxF_le (L := upA L i x) hi
      unfold upA at this
      rw [if_pos rfl] at this
      exact this
section
variable (c : Nat) (w : Nat → Nat)
/-- the least greatest load, when stone s and the n behind it are still to be given -/
def sO : Nat → Nat → (Nat → Nat) → Nat
  | 0, _, L => mxF L c
  | n + 1, s, L => sO n (s + 1) (upA L (amN (fun i => sO n (s + 1) (upA L i (w s))) c) (w s))
/-- the first way to it -/
def gp : Nat → Nat → (Nat → Nat) → (Nat → Nat) → (Nat → Nat)
  | 0, _, _, g => g
  | n + 1, s, L, g => gp n (s + 1) (upA L (amN (fun i => sO c w n (s + 1) (upA L i (w s))) c) (w s)) (setN g s (amN (fun i => sO c w n (s + 1) (upA L i (w s))) c))
/-- what is still to be given fits into the rooms -/
def Fz : Nat → Nat → (Nat → Nat) → Prop
  | 0, _, _ => True
  | n + 1, s, R => ∃ i, i < c ∧ w s ≤ R i ∧ Fz n (s + 1) (suB R i (w s))
end
section
variable {c : Nat} {w : Nat → Nat}
theorem Fz_congr : ∀ {n s : Nat} {R R' : Nat → Nat}, (∀ i, i < c → R i = R' i) → Fz c w n s R → Fz c w n s R' := by
  intro n
  induction n with
  | zero => intro s R R' _ _; exact trivial
  | succ n ih =>
    intro s R R' e ⟨i, hi, h1, h2⟩
    refine ⟨i, hi, by rw [← e i hi]; exact h1, ih (fun k hk => ?_) h2⟩
    unfold suB
    rw [e k hk]
theorem sO_iff (hc : 0 < c) {B : Nat} : ∀ {n s : Nat} {L : Nat → Nat}, sO c w n s L ≤ B ↔ (∀ i, i < c → L i ≤ B) ∧ Fz c w n s (fun i => B - L i) := by
  intro n
  induction n with
  | zero =>
    intro s L
    exact ⟨fun h => ⟨fun i hi => Nat.le_trans (mxF_le hi) h, trivial⟩, fun h => mxF_lub h.1⟩
  | succ n ih =>
    intro s L
    have key : ∀ i, i < c → (sO c w n (s + 1) (upA L i (w s)) ≤ B ↔ (∀ k, k < c → L k ≤ B) ∧ w s ≤ B - L i ∧ Fz c w n (s + 1) (suB (fun k => B - L k) i (w s))) := by
      intro i hi
      rw [ih]
      constructor
      · rintro ⟨a, b⟩
        have ai := a i hi
        unfold upA at ai
        rw [if_pos rfl] at ai
        refine ⟨fun k hk => ?_, by omega, Fz_congr (fun k hk => ?_) b⟩
        · have := a k hk
          unfold upA at this
          by_cases q : k = i
          · rw [if_pos q] at this; omega
          · rw [if_neg q] at this; exact this
        · unfold upA suB
          dsimp only
          by_cases q : k = i
          · rw [if_pos q, if_pos q, q]; omega
          · rw [if_neg q, if_neg q]
      · rintro ⟨a, b, d⟩
        have ai := a i hi
        refine ⟨fun k hk => ?_, Fz_congr (fun k hk => ?_) d⟩
        · unfold upA
          by_cases q : k = i
          · rw [if_pos q, q]; omega
          · rw [if_neg q]; exact a k hk
        · unfold upA suB
          dsimp only
          by_cases q : k = i
          · rw [if_pos q, if_pos q, q]; omega
          · rw [if_neg q, if_neg q]
    have hm := amN_lt (f := fun i => sO c w n (s + 1) (upA L i (w s))) hc
    constructor
    · intro h
      have h' := (key _ hm).mp h
      exact ⟨h'.1, _, hm, h'.2.1, h'.2.2⟩
    · rintro ⟨a, i, hi, h1, h2⟩
      exact Nat.le_trans (amN_le (f := fun i => sO c w n (s + 1) (upA L i (w s))) hi) ((key i hi).mpr ⟨a, h1, h2⟩)
/-- two that are exchanged -/
def swp (e j k : Nat) : Nat := if k = e then j else if k = j then e else k
theorem swp_lt {e j k : Nat} (he : e < c) (hj : j < c) (hk : k < c) : swp e j k < c := by
  unfold swp
  by_cases q : k = e
  · rw [if_pos q]; exact hj
  · rw [if_neg q]
    by_cases z : k = j
    · rw [if_pos z]; exact he
    · rw [if_neg z]; exact hk
theorem swp_swp {e j k : Nat} : swp e j (swp e j k) = k := by
  unfold swp
  by_cases q : k = e
  · rw [if_pos q]
    by_cases z : j = e
    · rw [if_pos z, z, q]
    · rw [if_neg z, if_pos rfl, q]
  · rw [if_neg q]
    by_cases z : k = j
    · rw [if_pos z, if_pos rfl, z]
    · rw [if_neg z, if_neg q, if_neg z]
theorem Fz_swp {e j : Nat} (he : e < c) (hj : j < c) : ∀ {n s : Nat} {R : Nat → Nat}, Fz c w n s R → Fz c w n s (fun k => R (swp e j k)) := by
  intro n
  induction n with
  | zero => intro s R _; exact trivial
  | succ n ih =>
    intro s R ⟨i, hi, h1, h2⟩
    refine ⟨swp e j i, swp_lt he hj hi, by show w s ≤ R (swp e j (swp e j i)); rw [swp_swp]; exact h1, Fz_congr (fun k hk => ?_) (ih h2)⟩
    unfold suB
    dsimp only
    by_cases q : k = swp e j i
    · rw [if_pos q, if_pos (by rw [q, swp_swp])]
    · rw [if_neg q, if_neg (fun z => q (by rw [← z, swp_swp]))]
theorem sO_like (hc : 0 < c) {e j n s x : Nat} {L : Nat → Nat} (he : e < c) (hj : j < c) (l : L e = L j) : sO c w n s (upA L j x) ≤ sO c w n s (upA L e x) := by
  by_cases ej : e = j
  · rw [ej]; exact Nat.le_refl _
  rw [sO_iff hc]
  obtain ⟨a, b⟩ := (sO_iff (w := w) hc (n := n) (s := s) (L := upA L e x) (B := sO c w n s (upA L e x))).mp (Nat.le_refl _)
  have sw : ∀ k, upA L j x k = upA L e x (swp e j k) := by
    intro k
    unfold upA swp
    by_cases q : k = e
    · rw [if_pos q, if_neg (fun z => ej (q.symm.trans z)), if_neg (fun z => ej z.symm), q, l]
    · rw [if_neg q]
      by_cases z : k = j
      · rw [if_pos z, if_pos z, if_pos rfl, z, l]
      · rw [if_neg z, if_neg z, if_neg q]
  refine ⟨fun i hi => ?_, Fz_congr (fun k hk => ?_) (Fz_swp he hj b)⟩
  · rw [sw i]; exact a _ (swp_lt he hj hi)
  · rw [sw k]
end
/-! what the class keeps -/
def kpN (st : Option Nat × (Nat → Nat)) (v : Nat) (b : Nat → Nat) : Option Nat × (Nat → Nat) := match st.1 with
  | none => (some v, b)
  | some l => if v < l then (some v, b) else st
def pruN (bd : Nat) (st : Option Nat × (Nat → Nat)) (g : Nat) : Bool := match st.1 with
  | none => false
  | some l => decide (l ≤ g) || decide (l ≤ bd)
def likN (L : Nat → Nat) (i : Nat) : Bool := (List.range i).any (fun e => decide (L e = L i))
section
variable (c : Nat) (w : Nat → Nat) (bd : Nat)
def dlN : Nat → Nat → (Nat → Nat) → Nat → (Nat → Nat) → Option Nat × (Nat → Nat) → Option Nat × (Nat → Nat)
  | 0, _, _, g, gv, st => if pruN bd st g = true then st else (some g, gv)
  | n + 1, s, L, g, gv, st => if pruN bd st g = true then st else fo (fun i st => if likN L i = true then st else dlN n (s + 1) (upA L i (w s)) (max g (L i + w s)) (setN gv s i) st) c st
end
section
variable {c : Nat} {w : Nat → Nat} {bd : Nat}
theorem kp_pru {st : Option Nat × (Nat → Nat)} {g v : Nat} {b : Nat → Nat} (p : pruN bd st g = true) (h1 : g ≤ v) (h2 : bd ≤ v) : kpN st v b = st := by
  unfold pruN at p
  unfold kpN
  match st, p with
  | (none, _), p => exact absurd p (by simp)
  | (some l, _), p =>
    dsimp only at p ⊢
    rw [if_neg]
    simp at p
    omega
theorem kp_kp {st : Option Nat × (Nat → Nat)} {v v' : Nat} {b b' : Nat → Nat} : kpN (kpN st v b) v' b' = if v' < v then kpN st v' b' else kpN st v b := by
  unfold kpN
  match st with
  | (none, _) => rfl
  | (some l, q) =>
    dsimp only
    by_cases h : v < l
    · rw [if_pos h]
      dsimp only
      by_cases h2 : v' < v
      · rw [if_pos h2, if_pos h2, if_pos (by omega)]
      · rw [if_neg h2, if_neg h2]
    · rw [if_neg h]
      dsimp only
      by_cases h2 : v' < v
      · rw [if_pos h2]
      · rw [if_neg h2, if_neg (by omega)]
theorem mxF_sO (hc : 0 < c) {n s : Nat} {L : Nat → Nat} : mxF L c ≤ sO c w n s L := mxF_lub (((sO_iff (w := w) hc (n := n) (s := s) (L := L)).mp (Nat.le_refl _)).1)
theorem dlN_eq (hc : 0 < c) : ∀ {n s : Nat} {L : Nat → Nat} {g : Nat} {gv : Nat → Nat} {st : Option Nat × (Nat → Nat)}, g = mxF L c → bd ≤ sO c w n s L → dlN c w bd n s L g gv st = kpN st (sO c w n s L) (gp c w n s L gv) := by
  intro n
  induction n with
  | zero =>
    intro s L g gv st hg hb
    show (if pruN bd st g = true then st else (some g, gv)) = kpN st (mxF L c) gv
    have hb : bd ≤ mxF L c := hb
    by_cases p : pruN bd st g = true
    · rw [if_pos p, kp_pru p (by omega) hb]
    · rw [if_neg p, ← hg]
      unfold pruN at p
      unfold kpN
      match st, p with
      | (none, _), p => rfl
      | (some l, q), p =>
        dsimp only at p ⊢
        simp at p
        rw [if_pos (by omega)]
  | succ n ih =>
    intro s L g gv st hg hb
    have hsO := mxF_sO (w := w) hc (n := n + 1) (s := s) (L := L)
    show (if pruN bd st g = true then st else fo (fun i st => if likN L i = true then st else dlN c w bd n (s + 1) (upA L i (w s)) (max g (L i + w s)) (setN gv s i) st) c st) = _
    by_cases p : pruN bd st g = true
    · rw [if_pos p, kp_pru p (by omega) hb]
    rw [if_neg p]
    have ef : sO c w (n + 1) s L = (fun i => sO c w n (s + 1) (upA L i (w s))) (amN (fun i => sO c w n (s + 1) (upA L i (w s))) c) := rfl
    have eg : gp c w (n + 1) s L gv = (fun i => gp c w n (s + 1) (upA L i (w s)) (setN gv s i)) (amN (fun i => sO c w n (s + 1) (upA L i (w s))) c) := rfl
    rw [eg, ef]
    rw [ef] at hb
    generalize hf : (fun i => sO c w n (s + 1) (upA L i (w s))) = f at hb ⊢
    generalize hG : (fun i => gp c w n (s + 1) (upA L i (w s)) (setN gv s i)) = G
    have fi : ∀ i, sO c w n (s + 1) (upA L i (w s)) = f i := fun i => by rw [← hf]
    have Gi : ∀ i, gp c w n (s + 1) (upA L i (w s)) (setN gv s i) = G i := fun i => by rw [← hG]
    have J : ∀ j, j < c → fo (fun i st => if likN L i = true then st else dlN c w bd n (s + 1) (upA L i (w s)) (max g (L i + w s)) (setN gv s i) st) (j + 1) st = kpN st (f (amN f (j + 1))) (G (amN f (j + 1))) := by
      intro j
      induction j with
      | zero =>
        intro _
        show (if likN L 0 = true then st else _) = _
        rw [if_neg (show ¬ likN L 0 = true from by unfold likN; simp)]
        have a0 : amN f (0 + 1) = 0 := by
          show (if f 0 < f 0 then 0 else 0) = 0
          split <;> rfl
        rw [a0]
        have := ih (s := s + 1) (L := upA L 0 (w s)) (g := max g (L 0 + w s)) (gv := setN gv s 0) (st := st) (by rw [mxF_up hc, hg]) (by rw [fi]; exact Nat.le_trans hb (amN_le hc))
        rw [fi, Gi] at this
        exact this
      | succ j ihj =>
        intro hj
        have e := ihj (by omega)
        have es : fo (fun i st => if likN L i = true then st else dlN c w bd n (s + 1) (upA L i (w s)) (max g (L i + w s)) (setN gv s i) st) (j + 1 + 1) st = (fun i st => if likN L i = true then st else dlN c w bd n (s + 1) (upA L i (w s)) (max g (L i + w s)) (setN gv s i) st) (j + 1) (fo (fun i st => if likN L i = true then st else dlN c w bd n (s + 1) (upA L i (w s)) (max g (L i + w s)) (setN gv s i) st) (j + 1) st) := rfl
        rw [es, e]
        dsimp only
        have ea : amN f (j + 1 + 1) = if f (j + 1) < f (amN f (j + 1)) then j + 1 else amN f (j + 1) := rfl
        by_cases l : likN L (j + 1) = true
        · rw [if_pos l]
          have ne : ¬ f (j + 1) < f (amN f (j + 1)) := by
            unfold likN at l
            rw [List.any_eq_true] at l
            obtain ⟨x, hx, hx2⟩ := l
            have hx := List.mem_range.mp hx
            have hx2 := of_decide_eq_true hx2
            have q1 := amN_le (f := f) hx
            have q2 := sO_like (w := w) hc (n := n) (s := s + 1) (x := w s) (L := L) hj (show x < c by omega) hx2.symm
            rw [fi, fi] at q2
            omega
          rw [ea, if_neg ne]
        · rw [if_neg l]
          have := ih (s := s + 1) (L := upA L (j + 1) (w s)) (g := max g (L (j + 1) + w s)) (gv := setN gv s (j + 1)) (st := kpN st (f (amN f (j + 1))) (G (amN f (j + 1)))) (by rw [mxF_up hj, hg]) (by rw [fi]; exact Nat.le_trans hb (amN_le hj))
          rw [fi, Gi] at this
          rw [this, kp_kp, ea]
          by_cases c1 : f (j + 1) < f (amN f (j + 1))
          · rw [if_pos c1, if_pos c1]
          · rw [if_neg c1, if_neg c1]
    obtain ⟨j, rfl⟩ : ∃ j, c = j + 1 := ⟨c - 1, by omega⟩
    exact J j (by omega)
end
