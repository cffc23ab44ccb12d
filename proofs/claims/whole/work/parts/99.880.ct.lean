/-! THE CONSTRUCTORS -/
def cst (o : Nat × Nat × Nat × Nat × Int32) (h : mxH) : mxH := match o.1 with
  | 0 => mx_mk h o.2.1
  | 1 => mx_wi h o.2.1 o.2.2.1 o.2.2.2.2
  | _ => mx_wr h o.2.1 o.2.2.1 o.2.2.2.1
def crun : List (Nat × Nat × Nat × Nat × Int32) → mxH → mxH
  | [], h => h
  | o :: t, h => crun t (cst o h)
theorem crun_app (s t : List (Nat × Nat × Nat × Nat × Int32)) (h : mxH) : crun (s ++ t) h = crun t (crun s h) := by
  induction s generalizing h with
  | nil => rfl
  | cons o s ih => exact ih (cst o h)
def shp (c : Nat) (l : List (Nat × Nat)) : Prop := ∀ k, k < l.length → mxT (100 + (c + k)) = l.getD k (0, 0)
def rdI : List (Nat × Nat × Nat × Nat × Int32) → Nat → Int32 → Nat → Nat → Int32
  | [], _, v, _, _ => v
  | o :: t, c, v, b, j => match o.1 with
    | 0 => rdI t (c + 1) (if b = 100 + c then 0 else v) b j
    | 1 => rdI t c (if b = o.2.1 ∧ j = o.2.2.1 then o.2.2.2.2 else v) b j
    | _ => rdI t c v b j
def rdR : List (Nat × Nat × Nat × Nat × Int32) → Nat → Nat → Nat → Nat → Nat
  | [], _, v, _, _ => v
  | o :: t, c, v, b, j => match o.1 with
    | 0 => rdR t (c + 1) (if b = 100 + c then 0 else v) b j
    | 1 => rdR t c v b j
    | _ => rdR t c (if b = o.2.1 ∧ j = o.2.2.1 then o.2.2.2.1 else v) b j
def rdC : List (Nat × Nat × Nat × Nat × Int32) → Nat × Nat → Nat × Nat
  | [], c => c
  | o :: t, c => match o.1 with
    | 0 => rdC t (c.1 + 1, c.2 + o.2.1)
    | _ => rdC t c
theorem crun_i : ∀ (X : List (Nat × Nat × Nat × Nat × Int32)) (h : mxH) (b j : Nat), mx_i (crun X h) b j = rdI X (mx_c h) (mx_i h b j) b j := by
  intro X
  induction X with
  | nil => intro h b j; rfl
  | cons o t ih =>
    intro h b j
    obtain ⟨q, o⟩ := o
    match q with
    | 0 => exact ih _ b j
    | 1 => exact ih _ b j
    | _ + 2 => exact ih _ b j
theorem crun_r : ∀ (X : List (Nat × Nat × Nat × Nat × Int32)) (h : mxH) (b j : Nat), mx_r (crun X h) b j = rdR X (mx_c h) (mx_r h b j) b j := by
  intro X
  induction X with
  | nil => intro h b j; rfl
  | cons o t ih =>
    intro h b j
    obtain ⟨q, o⟩ := o
    match q with
    | 0 => exact ih _ b j
    | 1 => exact ih _ b j
    | _ + 2 => exact ih _ b j
theorem crun_c : ∀ (X : List (Nat × Nat × Nat × Nat × Int32)) (h : mxH), (mx_c (crun X h), mx_n (crun X h)) = rdC X (mx_c h, mx_n h) ∧ mx_x (crun X h) = mx_x h := by
  intro X
  induction X with
  | nil => intro h; exact ⟨rfl, rfl⟩
  | cons o t ih =>
    intro h
    obtain ⟨q, o⟩ := o
    match q with
    | 0 => exact ih _
    | 1 => exact ih _
    | _ + 2 => exact ih _
def cop_0 (a c : Nat) : List (Nat × Nat × Nat × Nat × Int32) := [(1, a, 0, 0, (0 : Int32)), (0, 240, 0, 0, 0), (2, a, 1, 100 + (c + 0), 0)]
def csh_0 : List (Nat × Nat) := [(50, 240)]
set_option maxRecDepth 8000 in
theorem ct_0 {d : Nat} {h : mxH} {Q : mxO → mxH → Prop} {a : Nat} (hT : (mxT a).1 = 1) (h1 : 100 ≤ a) (h2 : a < 100 + mx_c h) (hS : shp (mx_c h) csh_0) (hb : mx_c h + 1 ≤ 292) (k : ∀ h1, h1 = crun (cop_0 a (mx_c h)) h → mx_c h1 = mx_c h + 1 → Q (.inl none) h1) : mx_wp d 0 0 (mx_fr 0 [.ref a]) [] h Q := by
  show mx_wp d 0 0 [some (.ref a)] [] h Q
  refine wp_steps (i' := 9) (ls' := [some (.ref a)]) (st' := []) (h' := crun (cop_0 a (mx_c h)) h) (P := (100 ≤ a ∧ ((([] : List Value).map mx_cat).sum ≤ 8)) ∧ ((mxT a).1 = 1 ∧ a < 100 + (mx_c h + 0)) ∧ (mxT (100 + (mx_c h + 0)) = (50, 240) ∧ ¬ (240 : Int32) < 0 ∧ mx_c h + 0 < 292) ∧ ((mxT a).1 = 1 ∧ a < 100 + (mx_c h + 1)) ∧ True) 9 rfl rfl ⟨⟨h1, Nat.le_of_ble_eq_true rfl⟩, ⟨hT, Nat.lt_of_lt_of_le h2 (by omega)⟩, ⟨hS 0 (by decide), by decide, by omega⟩, ⟨hT, Nat.lt_of_lt_of_le h2 (by omega)⟩, trivial⟩ ?_
  exact wp_end (o := .inl none) (h' := crun (cop_0 a (mx_c h)) h) (P := True) rfl rfl trivial (k _ rfl rfl)
def cop_6 (a c : Nat) : List (Nat × Nat × Nat × Nat × Int32) := [(0, 6, 0, 0, 0), (2, a, 0, 100 + (c + 0), 0), (0, 6, 0, 0, 0), (2, a, 1, 100 + (c + 1), 0), (1, a, 2, 0, (0 : Int32)), (0, 10, 0, 0, 0), (2, a, 3, 100 + (c + 2), 0), (0, 10, 0, 0, 0), (2, a, 4, 100 + (c + 3), 0), (0, 10, 0, 0, 0), (2, a, 5, 100 + (c + 4), 0), (1, a, 6, 0, (0 : Int32)), (1, a, 7, 0, (0 : Int32)), (1, a, 8, 0, (0 : Int32)), (0, 64, 0, 0, 0), (2, a, 9, 100 + (c + 5), 0), (0, 64, 0, 0, 0), (2, a, 10, 100 + (c + 6), 0)]
def csh_6 : List (Nat × Nat) := [(50, 6), (50, 6), (50, 10), (50, 10), (50, 10), (50, 64), (50, 64)]
set_option maxRecDepth 8000 in
theorem ct_6 {d : Nat} {h : mxH} {Q : mxO → mxH → Prop} {a : Nat} (hT : (mxT a).1 = 2) (h1 : 100 ≤ a) (h2 : a < 100 + mx_c h) (hS : shp (mx_c h) csh_6) (hb : mx_c h + 7 ≤ 292) (k : ∀ h1, h1 = crun (cop_6 a (mx_c h)) h → mx_c h1 = mx_c h + 7 → Q (.inl none) h1) : mx_wp d 6 0 (mx_fr 6 [.ref a]) [] h Q := by
  show mx_wp d 6 0 [some (.ref a)] [] h Q
  refine wp_steps (i' := 42) (ls' := [some (.ref a)]) (st' := []) (h' := crun (cop_6 a (mx_c h)) h) (P := (100 ≤ a ∧ ((([] : List Value).map mx_cat).sum ≤ 8)) ∧ (mxT (100 + (mx_c h + 0)) = (50, 6) ∧ ¬ (6 : Int32) < 0 ∧ mx_c h + 0 < 292) ∧ ((mxT a).1 = 2 ∧ a < 100 + (mx_c h + 1)) ∧ (mxT (100 + (mx_c h + 1)) = (50, 6) ∧ ¬ (6 : Int32) < 0 ∧ mx_c h + 1 < 292) ∧ ((mxT a).1 = 2 ∧ a < 100 + (mx_c h + 2)) ∧ ((mxT a).1 = 2 ∧ a < 100 + (mx_c h + 2)) ∧ (mxT (100 + (mx_c h + 2)) = (50, 10) ∧ ¬ (10 : Int32) < 0 ∧ mx_c h + 2 < 292) ∧ ((mxT a).1 = 2 ∧ a < 100 + (mx_c h + 3)) ∧ (mxT (100 + (mx_c h + 3)) = (50, 10) ∧ ¬ (10 : Int32) < 0 ∧ mx_c h + 3 < 292) ∧ ((mxT a).1 = 2 ∧ a < 100 + (mx_c h + 4)) ∧ (mxT (100 + (mx_c h + 4)) = (50, 10) ∧ ¬ (10 : Int32) < 0 ∧ mx_c h + 4 < 292) ∧ ((mxT a).1 = 2 ∧ a < 100 + (mx_c h + 5)) ∧ ((mxT a).1 = 2 ∧ a < 100 + (mx_c h + 5)) ∧ ((mxT a).1 = 2 ∧ a < 100 + (mx_c h + 5)) ∧ ((mxT a).1 = 2 ∧ a < 100 + (mx_c h + 5)) ∧ (mxT (100 + (mx_c h + 5)) = (50, 64) ∧ ¬ (64 : Int32) < 0 ∧ mx_c h + 5 < 292) ∧ ((mxT a).1 = 2 ∧ a < 100 + (mx_c h + 6)) ∧ (mxT (100 + (mx_c h + 6)) = (50, 64) ∧ ¬ (64 : Int32) < 0 ∧ mx_c h + 6 < 292) ∧ ((mxT a).1 = 2 ∧ a < 100 + (mx_c h + 7)) ∧ True) 42 rfl rfl ⟨⟨h1, Nat.le_of_ble_eq_true rfl⟩, ⟨hS 0 (by decide), by decide, by omega⟩, ⟨hT, Nat.lt_of_lt_of_le h2 (by omega)⟩, ⟨hS 1 (by decide), by decide, by omega⟩, ⟨hT, Nat.lt_of_lt_of_le h2 (by omega)⟩, ⟨hT, Nat.lt_of_lt_of_le h2 (by omega)⟩, ⟨hS 2 (by decide), by decide, by omega⟩, ⟨hT, Nat.lt_of_lt_of_le h2 (by omega)⟩, ⟨hS 3 (by decide), by decide, by omega⟩, ⟨hT, Nat.lt_of_lt_of_le h2 (by omega)⟩, ⟨hS 4 (by decide), by decide, by omega⟩, ⟨hT, Nat.lt_of_lt_of_le h2 (by omega)⟩, ⟨hT, Nat.lt_of_lt_of_le h2 (by omega)⟩, ⟨hT, Nat.lt_of_lt_of_le h2 (by omega)⟩, ⟨hT, Nat.lt_of_lt_of_le h2 (by omega)⟩, ⟨hS 5 (by decide), by decide, by omega⟩, ⟨hT, Nat.lt_of_lt_of_le h2 (by omega)⟩, ⟨hS 6 (by decide), by decide, by omega⟩, ⟨hT, Nat.lt_of_lt_of_le h2 (by omega)⟩, trivial⟩ ?_
  exact wp_end (o := .inl none) (h' := crun (cop_6 a (mx_c h)) h) (P := True) rfl rfl trivial (k _ rfl rfl)
def cop_19 (a c : Nat) : List (Nat × Nat × Nat × Nat × Int32) := [(1, a, 0, 0, (0 : Int32)), (1, a, 1, 0, (0 : Int32)), (1, a, 2, 0, (0 : Int32)), (0, 12, 0, 0, 0), (2, a, 3, 100 + (c + 0), 0), (0, 12, 0, 0, 0), (2, a, 4, 100 + (c + 1), 0), (0, 12, 0, 0, 0), (2, a, 5, 100 + (c + 2), 0), (0, 400, 0, 0, 0), (2, a, 6, 100 + (c + 3), 0), (0, 9, 0, 0, 0), (2, a, 7, 100 + (c + 4), 0), (0, 64, 0, 0, 0), (2, a, 8, 100 + (c + 5), 0)]
def csh_19 : List (Nat × Nat) := [(50, 12), (50, 12), (50, 12), (50, 400), (50, 9), (50, 64)]
set_option maxRecDepth 8000 in
theorem ct_19 {d : Nat} {h : mxH} {Q : mxO → mxH → Prop} {a : Nat} (hT : (mxT a).1 = 3) (h1 : 100 ≤ a) (h2 : a < 100 + mx_c h) (hS : shp (mx_c h) csh_19) (hb : mx_c h + 6 ≤ 292) (k : ∀ h1, h1 = crun (cop_19 a (mx_c h)) h → mx_c h1 = mx_c h + 6 → Q (.inl none) h1) : mx_wp d 19 0 (mx_fr 19 [.ref a]) [] h Q := by
  show mx_wp d 19 0 [some (.ref a)] [] h Q
  refine wp_steps (i' := 35) (ls' := [some (.ref a)]) (st' := []) (h' := crun (cop_19 a (mx_c h)) h) (P := (100 ≤ a ∧ ((([] : List Value).map mx_cat).sum ≤ 8)) ∧ (((mxT a).1 = 3 ∧ a < 100 + (mx_c h + 0)) ∧ ((0 : Int32) = 0 ∨ (0 : Int32) = 1)) ∧ ((mxT a).1 = 3 ∧ a < 100 + (mx_c h + 0)) ∧ ((mxT a).1 = 3 ∧ a < 100 + (mx_c h + 0)) ∧ (mxT (100 + (mx_c h + 0)) = (50, 12) ∧ ¬ (12 : Int32) < 0 ∧ mx_c h + 0 < 292) ∧ ((mxT a).1 = 3 ∧ a < 100 + (mx_c h + 1)) ∧ (mxT (100 + (mx_c h + 1)) = (50, 12) ∧ ¬ (12 : Int32) < 0 ∧ mx_c h + 1 < 292) ∧ ((mxT a).1 = 3 ∧ a < 100 + (mx_c h + 2)) ∧ (mxT (100 + (mx_c h + 2)) = (50, 12) ∧ ¬ (12 : Int32) < 0 ∧ mx_c h + 2 < 292) ∧ ((mxT a).1 = 3 ∧ a < 100 + (mx_c h + 3)) ∧ (mxT (100 + (mx_c h + 3)) = (50, 400) ∧ ¬ (400 : Int32) < 0 ∧ mx_c h + 3 < 292) ∧ ((mxT a).1 = 3 ∧ a < 100 + (mx_c h + 4)) ∧ (mxT (100 + (mx_c h + 4)) = (50, 9) ∧ ¬ (9 : Int32) < 0 ∧ mx_c h + 4 < 292) ∧ ((mxT a).1 = 3 ∧ a < 100 + (mx_c h + 5)) ∧ (mxT (100 + (mx_c h + 5)) = (50, 64) ∧ ¬ (64 : Int32) < 0 ∧ mx_c h + 5 < 292) ∧ ((mxT a).1 = 3 ∧ a < 100 + (mx_c h + 6)) ∧ True) 35 rfl rfl ⟨⟨h1, Nat.le_of_ble_eq_true rfl⟩, ⟨⟨hT, Nat.lt_of_lt_of_le h2 (by omega)⟩, .inl rfl⟩, ⟨hT, Nat.lt_of_lt_of_le h2 (by omega)⟩, ⟨hT, Nat.lt_of_lt_of_le h2 (by omega)⟩, ⟨hS 0 (by decide), by decide, by omega⟩, ⟨hT, Nat.lt_of_lt_of_le h2 (by omega)⟩, ⟨hS 1 (by decide), by decide, by omega⟩, ⟨hT, Nat.lt_of_lt_of_le h2 (by omega)⟩, ⟨hS 2 (by decide), by decide, by omega⟩, ⟨hT, Nat.lt_of_lt_of_le h2 (by omega)⟩, ⟨hS 3 (by decide), by decide, by omega⟩, ⟨hT, Nat.lt_of_lt_of_le h2 (by omega)⟩, ⟨hS 4 (by decide), by decide, by omega⟩, ⟨hT, Nat.lt_of_lt_of_le h2 (by omega)⟩, ⟨hS 5 (by decide), by decide, by omega⟩, ⟨hT, Nat.lt_of_lt_of_le h2 (by omega)⟩, trivial⟩ ?_
  exact wp_end (o := .inl none) (h' := crun (cop_19 a (mx_c h)) h) (P := True) rfl rfl trivial (k _ rfl rfl)
def cop_29 (a c : Nat) : List (Nat × Nat × Nat × Nat × Int32) := [(0, 64, 0, 0, 0), (2, a, 0, 100 + (c + 0), 0), (1, a, 1, 0, (0 : Int32)), (1, a, 2, 0, (0 : Int32)), (1, a, 3, 0, (0 : Int32))]
def csh_29 : List (Nat × Nat) := [(50, 64)]
set_option maxRecDepth 8000 in
theorem ct_29 {d : Nat} {h : mxH} {Q : mxO → mxH → Prop} {a : Nat} (hT : (mxT a).1 = 4) (h1 : 100 ≤ a) (h2 : a < 100 + mx_c h) (hS : shp (mx_c h) csh_29) (hb : mx_c h + 1 ≤ 292) (k : ∀ h1, h1 = crun (cop_29 a (mx_c h)) h → mx_c h1 = mx_c h + 1 → Q (.inl none) h1) : mx_wp d 29 0 (mx_fr 29 [.ref a]) [] h Q := by
  show mx_wp d 29 0 [some (.ref a)] [] h Q
  refine wp_steps (i' := 15) (ls' := [some (.ref a)]) (st' := []) (h' := crun (cop_29 a (mx_c h)) h) (P := (100 ≤ a ∧ ((([] : List Value).map mx_cat).sum ≤ 8)) ∧ (mxT (100 + (mx_c h + 0)) = (50, 64) ∧ ¬ (64 : Int32) < 0 ∧ mx_c h + 0 < 292) ∧ ((mxT a).1 = 4 ∧ a < 100 + (mx_c h + 1)) ∧ ((mxT a).1 = 4 ∧ a < 100 + (mx_c h + 1)) ∧ ((mxT a).1 = 4 ∧ a < 100 + (mx_c h + 1)) ∧ ((mxT a).1 = 4 ∧ a < 100 + (mx_c h + 1)) ∧ True) 15 rfl rfl ⟨⟨h1, Nat.le_of_ble_eq_true rfl⟩, ⟨hS 0 (by decide), by decide, by omega⟩, ⟨hT, Nat.lt_of_lt_of_le h2 (by omega)⟩, ⟨hT, Nat.lt_of_lt_of_le h2 (by omega)⟩, ⟨hT, Nat.lt_of_lt_of_le h2 (by omega)⟩, ⟨hT, Nat.lt_of_lt_of_le h2 (by omega)⟩, trivial⟩ ?_
  exact wp_end (o := .inl none) (h' := crun (cop_29 a (mx_c h)) h) (P := True) rfl rfl trivial (k _ rfl rfl)
def cop_42 (a c : Nat) : List (Nat × Nat × Nat × Nat × Int32) := [(1, a, 0, 0, (0 : Int32)), (0, 6, 0, 0, 0), (2, a, 1, 100 + (c + 0), 0), (0, 6, 0, 0, 0), (2, a, 2, 100 + (c + 1), 0), (0, 6, 0, 0, 0), (2, a, 3, 100 + (c + 2), 0), (0, 6, 0, 0, 0), (2, a, 4, 100 + (c + 3), 0), (0, 6, 0, 0, 0), (2, a, 5, 100 + (c + 4), 0), (1, a, 6, 0, (0 : Int32))]
def csh_42 : List (Nat × Nat) := [(50, 6), (50, 6), (50, 6), (50, 6), (50, 6)]
set_option maxRecDepth 8000 in
theorem ct_42 {d : Nat} {h : mxH} {Q : mxO → mxH → Prop} {a : Nat} (hT : (mxT a).1 = 5) (h1 : 100 ≤ a) (h2 : a < 100 + mx_c h) (hS : shp (mx_c h) csh_42) (hb : mx_c h + 5 ≤ 292) (k : ∀ h1, h1 = crun (cop_42 a (mx_c h)) h → mx_c h1 = mx_c h + 5 → Q (.inl none) h1) : mx_wp d 42 0 (mx_fr 42 [.ref a]) [] h Q := by
  show mx_wp d 42 0 [some (.ref a)] [] h Q
  refine wp_steps (i' := 28) (ls' := [some (.ref a)]) (st' := []) (h' := crun (cop_42 a (mx_c h)) h) (P := (100 ≤ a ∧ ((([] : List Value).map mx_cat).sum ≤ 8)) ∧ ((mxT a).1 = 5 ∧ a < 100 + (mx_c h + 0)) ∧ (mxT (100 + (mx_c h + 0)) = (50, 6) ∧ ¬ (6 : Int32) < 0 ∧ mx_c h + 0 < 292) ∧ ((mxT a).1 = 5 ∧ a < 100 + (mx_c h + 1)) ∧ (mxT (100 + (mx_c h + 1)) = (50, 6) ∧ ¬ (6 : Int32) < 0 ∧ mx_c h + 1 < 292) ∧ ((mxT a).1 = 5 ∧ a < 100 + (mx_c h + 2)) ∧ (mxT (100 + (mx_c h + 2)) = (50, 6) ∧ ¬ (6 : Int32) < 0 ∧ mx_c h + 2 < 292) ∧ ((mxT a).1 = 5 ∧ a < 100 + (mx_c h + 3)) ∧ (mxT (100 + (mx_c h + 3)) = (50, 6) ∧ ¬ (6 : Int32) < 0 ∧ mx_c h + 3 < 292) ∧ ((mxT a).1 = 5 ∧ a < 100 + (mx_c h + 4)) ∧ (mxT (100 + (mx_c h + 4)) = (50, 6) ∧ ¬ (6 : Int32) < 0 ∧ mx_c h + 4 < 292) ∧ ((mxT a).1 = 5 ∧ a < 100 + (mx_c h + 5)) ∧ ((mxT a).1 = 5 ∧ a < 100 + (mx_c h + 5)) ∧ True) 28 rfl rfl ⟨⟨h1, Nat.le_of_ble_eq_true rfl⟩, ⟨hT, Nat.lt_of_lt_of_le h2 (by omega)⟩, ⟨hS 0 (by decide), by decide, by omega⟩, ⟨hT, Nat.lt_of_lt_of_le h2 (by omega)⟩, ⟨hS 1 (by decide), by decide, by omega⟩, ⟨hT, Nat.lt_of_lt_of_le h2 (by omega)⟩, ⟨hS 2 (by decide), by decide, by omega⟩, ⟨hT, Nat.lt_of_lt_of_le h2 (by omega)⟩, ⟨hS 3 (by decide), by decide, by omega⟩, ⟨hT, Nat.lt_of_lt_of_le h2 (by omega)⟩, ⟨hS 4 (by decide), by decide, by omega⟩, ⟨hT, Nat.lt_of_lt_of_le h2 (by omega)⟩, ⟨hT, Nat.lt_of_lt_of_le h2 (by omega)⟩, trivial⟩ ?_
  exact wp_end (o := .inl none) (h' := crun (cop_42 a (mx_c h)) h) (P := True) rfl rfl trivial (k _ rfl rfl)
def cop_53 (a c : Nat) : List (Nat × Nat × Nat × Nat × Int32) := [(0, 36, 0, 0, 0), (2, a, 0, 100 + (c + 0), 0), (1, a, 1, 0, (0 : Int32)), (1, a, 2, 0, (0 : Int32))]
def csh_53 : List (Nat × Nat) := [(50, 36)]
set_option maxRecDepth 8000 in
theorem ct_53 {d : Nat} {h : mxH} {Q : mxO → mxH → Prop} {a : Nat} (hT : (mxT a).1 = 6) (h1 : 100 ≤ a) (h2 : a < 100 + mx_c h) (hS : shp (mx_c h) csh_53) (hb : mx_c h + 1 ≤ 292) (k : ∀ h1, h1 = crun (cop_53 a (mx_c h)) h → mx_c h1 = mx_c h + 1 → Q (.inl none) h1) : mx_wp d 53 0 (mx_fr 53 [.ref a]) [] h Q := by
  show mx_wp d 53 0 [some (.ref a)] [] h Q
  refine wp_steps (i' := 12) (ls' := [some (.ref a)]) (st' := []) (h' := crun (cop_53 a (mx_c h)) h) (P := (100 ≤ a ∧ ((([] : List Value).map mx_cat).sum ≤ 8)) ∧ (mxT (100 + (mx_c h + 0)) = (50, 36) ∧ ¬ (36 : Int32) < 0 ∧ mx_c h + 0 < 292) ∧ ((mxT a).1 = 6 ∧ a < 100 + (mx_c h + 1)) ∧ ((mxT a).1 = 6 ∧ a < 100 + (mx_c h + 1)) ∧ ((mxT a).1 = 6 ∧ a < 100 + (mx_c h + 1)) ∧ True) 12 rfl rfl ⟨⟨h1, Nat.le_of_ble_eq_true rfl⟩, ⟨hS 0 (by decide), by decide, by omega⟩, ⟨hT, Nat.lt_of_lt_of_le h2 (by omega)⟩, ⟨hT, Nat.lt_of_lt_of_le h2 (by omega)⟩, ⟨hT, Nat.lt_of_lt_of_le h2 (by omega)⟩, trivial⟩ ?_
  exact wp_end (o := .inl none) (h' := crun (cop_53 a (mx_c h)) h) (P := True) rfl rfl trivial (k _ rfl rfl)
def cop_65 (a c : Nat) : List (Nat × Nat × Nat × Nat × Int32) := [(1, a, 0, 0, (0 : Int32)), (0, 10, 0, 0, 0), (2, a, 1, 100 + (c + 0), 0), (0, 10, 0, 0, 0), (2, a, 2, 100 + (c + 1), 0), (0, 10, 0, 0, 0), (2, a, 3, 100 + (c + 2), 0), (0, 10, 0, 0, 0), (2, a, 4, 100 + (c + 3), 0), (0, 10, 0, 0, 0), (2, a, 5, 100 + (c + 4), 0)]
def csh_65 : List (Nat × Nat) := [(50, 10), (50, 10), (50, 10), (50, 10), (50, 10)]
set_option maxRecDepth 8000 in
theorem ct_65 {d : Nat} {h : mxH} {Q : mxO → mxH → Prop} {a : Nat} (hT : (mxT a).1 = 7) (h1 : 100 ≤ a) (h2 : a < 100 + mx_c h) (hS : shp (mx_c h) csh_65) (hb : mx_c h + 5 ≤ 292) (k : ∀ h1, h1 = crun (cop_65 a (mx_c h)) h → mx_c h1 = mx_c h + 5 → Q (.inl none) h1) : mx_wp d 65 0 (mx_fr 65 [.ref a]) [] h Q := by
  show mx_wp d 65 0 [some (.ref a)] [] h Q
  refine wp_steps (i' := 25) (ls' := [some (.ref a)]) (st' := []) (h' := crun (cop_65 a (mx_c h)) h) (P := (100 ≤ a ∧ ((([] : List Value).map mx_cat).sum ≤ 8)) ∧ ((mxT a).1 = 7 ∧ a < 100 + (mx_c h + 0)) ∧ (mxT (100 + (mx_c h + 0)) = (50, 10) ∧ ¬ (10 : Int32) < 0 ∧ mx_c h + 0 < 292) ∧ ((mxT a).1 = 7 ∧ a < 100 + (mx_c h + 1)) ∧ (mxT (100 + (mx_c h + 1)) = (50, 10) ∧ ¬ (10 : Int32) < 0 ∧ mx_c h + 1 < 292) ∧ ((mxT a).1 = 7 ∧ a < 100 + (mx_c h + 2)) ∧ (mxT (100 + (mx_c h + 2)) = (50, 10) ∧ ¬ (10 : Int32) < 0 ∧ mx_c h + 2 < 292) ∧ ((mxT a).1 = 7 ∧ a < 100 + (mx_c h + 3)) ∧ (mxT (100 + (mx_c h + 3)) = (50, 10) ∧ ¬ (10 : Int32) < 0 ∧ mx_c h + 3 < 292) ∧ ((mxT a).1 = 7 ∧ a < 100 + (mx_c h + 4)) ∧ (mxT (100 + (mx_c h + 4)) = (50, 10) ∧ ¬ (10 : Int32) < 0 ∧ mx_c h + 4 < 292) ∧ ((mxT a).1 = 7 ∧ a < 100 + (mx_c h + 5)) ∧ True) 25 rfl rfl ⟨⟨h1, Nat.le_of_ble_eq_true rfl⟩, ⟨hT, Nat.lt_of_lt_of_le h2 (by omega)⟩, ⟨hS 0 (by decide), by decide, by omega⟩, ⟨hT, Nat.lt_of_lt_of_le h2 (by omega)⟩, ⟨hS 1 (by decide), by decide, by omega⟩, ⟨hT, Nat.lt_of_lt_of_le h2 (by omega)⟩, ⟨hS 2 (by decide), by decide, by omega⟩, ⟨hT, Nat.lt_of_lt_of_le h2 (by omega)⟩, ⟨hS 3 (by decide), by decide, by omega⟩, ⟨hT, Nat.lt_of_lt_of_le h2 (by omega)⟩, ⟨hS 4 (by decide), by decide, by omega⟩, ⟨hT, Nat.lt_of_lt_of_le h2 (by omega)⟩, trivial⟩ ?_
  exact wp_end (o := .inl none) (h' := crun (cop_65 a (mx_c h)) h) (P := True) rfl rfl trivial (k _ rfl rfl)
def cop_84 (a c : Nat) : List (Nat × Nat × Nat × Nat × Int32) := [(0, 400, 0, 0, 0), (2, a, 0, 100 + (c + 0), 0), (1, a, 1, 0, (0 : Int32)), (1, a, 2, 0, (0 : Int32)), (1, a, 3, 0, (0 : Int32)), (0, 401, 0, 0, 0), (2, a, 4, 100 + (c + 1), 0), (0, 401, 0, 0, 0), (2, a, 5, 100 + (c + 2), 0), (0, 401, 0, 0, 0), (2, a, 6, 100 + (c + 3), 0), (0, 401, 0, 0, 0), (2, a, 7, 100 + (c + 4), 0)]
def csh_84 : List (Nat × Nat) := [(51, 400), (50, 401), (50, 401), (50, 401), (53, 401)]
set_option maxRecDepth 8000 in
theorem ct_84 {d : Nat} {h : mxH} {Q : mxO → mxH → Prop} {a : Nat} (hT : (mxT a).1 = 8) (h1 : 100 ≤ a) (h2 : a < 100 + mx_c h) (hS : shp (mx_c h) csh_84) (hb : mx_c h + 5 ≤ 292) (k : ∀ h1, h1 = crun (cop_84 a (mx_c h)) h → mx_c h1 = mx_c h + 5 → Q (.inl none) h1) : mx_wp d 84 0 (mx_fr 84 [.ref a]) [] h Q := by
  show mx_wp d 84 0 [some (.ref a)] [] h Q
  refine wp_steps (i' := 31) (ls' := [some (.ref a)]) (st' := []) (h' := crun (cop_84 a (mx_c h)) h) (P := (100 ≤ a ∧ ((([] : List Value).map mx_cat).sum ≤ 8)) ∧ (mxT (100 + (mx_c h + 0)) = (51, 400) ∧ ¬ (400 : Int32) < 0 ∧ mx_c h + 0 < 292) ∧ ((mxT a).1 = 8 ∧ a < 100 + (mx_c h + 1)) ∧ ((mxT a).1 = 8 ∧ a < 100 + (mx_c h + 1)) ∧ ((mxT a).1 = 8 ∧ a < 100 + (mx_c h + 1)) ∧ ((mxT a).1 = 8 ∧ a < 100 + (mx_c h + 1)) ∧ (mxT (100 + (mx_c h + 1)) = (50, 401) ∧ ¬ (401 : Int32) < 0 ∧ mx_c h + 1 < 292) ∧ ((mxT a).1 = 8 ∧ a < 100 + (mx_c h + 2)) ∧ (mxT (100 + (mx_c h + 2)) = (50, 401) ∧ ¬ (401 : Int32) < 0 ∧ mx_c h + 2 < 292) ∧ ((mxT a).1 = 8 ∧ a < 100 + (mx_c h + 3)) ∧ (mxT (100 + (mx_c h + 3)) = (50, 401) ∧ ¬ (401 : Int32) < 0 ∧ mx_c h + 3 < 292) ∧ ((mxT a).1 = 8 ∧ a < 100 + (mx_c h + 4)) ∧ (mxT (100 + (mx_c h + 4)) = (53, 401) ∧ ¬ (401 : Int32) < 0 ∧ mx_c h + 4 < 292) ∧ ((mxT a).1 = 8 ∧ a < 100 + (mx_c h + 5)) ∧ True) 31 rfl rfl ⟨⟨h1, Nat.le_of_ble_eq_true rfl⟩, ⟨hS 0 (by decide), by decide, by omega⟩, ⟨hT, Nat.lt_of_lt_of_le h2 (by omega)⟩, ⟨hT, Nat.lt_of_lt_of_le h2 (by omega)⟩, ⟨hT, Nat.lt_of_lt_of_le h2 (by omega)⟩, ⟨hT, Nat.lt_of_lt_of_le h2 (by omega)⟩, ⟨hS 1 (by decide), by decide, by omega⟩, ⟨hT, Nat.lt_of_lt_of_le h2 (by omega)⟩, ⟨hS 2 (by decide), by decide, by omega⟩, ⟨hT, Nat.lt_of_lt_of_le h2 (by omega)⟩, ⟨hS 3 (by decide), by decide, by omega⟩, ⟨hT, Nat.lt_of_lt_of_le h2 (by omega)⟩, ⟨hS 4 (by decide), by decide, by omega⟩, ⟨hT, Nat.lt_of_lt_of_le h2 (by omega)⟩, trivial⟩ ?_
  exact wp_end (o := .inl none) (h' := crun (cop_84 a (mx_c h)) h) (P := True) rfl rfl trivial (k _ rfl rfl)
def cop_189a (a c : Nat) : List (Nat × Nat × Nat × Nat × Int32) := [(0, 769, 0, 0, 0), (2, a, 1, 100 + (c + 0), 0), (0, 769, 0, 0, 0), (2, a, 2, 100 + (c + 1), 0), (0, 369, 0, 0, 0), (2, a, 4, 100 + (c + 2), 0), (0, 4428, 0, 0, 0), (2, a, 5, 100 + (c + 3), 0), (0, 400, 0, 0, 0), (2, a, 7, 100 + (c + 4), 0), (1, a, 12, 0, (-1 : Int32)), (0, 7, 0, 0, 0), (2, a, 14, 100 + (c + 5), 0), (0, 1024, 0, 0, 0), (2, a, 20, 100 + (c + 6), 0), (0, 1024, 0, 0, 0), (2, a, 21, 100 + (c + 7), 0), (0, 6, 0, 0, 0), (2, a, 22, 100 + (c + 8), 0)]
def csh_189 : List (Nat × Nat) := [(50, 769), (50, 769), (50, 369), (50, 4428), (50, 400), (50, 7), (50, 1024), (50, 1024), (50, 6)]
def cop_189 (a c : Nat) : List (Nat × Nat × Nat × Nat × Int32) := cop_189a a c ++ [(1, 100 + (c + 0), 1, 0, (-1 : Int32)), (1, 100 + (c + 0), 6, 0, (40 : Int32)), (1, 100 + (c + 0), 8, 0, (1 : Int32))]
set_option maxRecDepth 8000 in
theorem ct_189 {d : Nat} {h : mxH} {Q : mxO → mxH → Prop} {a : Nat} (hT : (mxT a).1 = 11) (h1 : 100 ≤ a) (h2 : a < 100 + mx_c h) (hS : shp (mx_c h) csh_189) (hb : mx_c h + 9 ≤ 292) (hc : mx_c h = 282) (ha : a = 381) (k : ∀ h1, h1 = crun (cop_189 a (mx_c h)) h → mx_c h1 = mx_c h + 9 → Q (.inl none) h1) : mx_wp d 189 0 (mx_fr 189 [.ref a]) [] h Q := by
  show mx_wp d 189 0 [some (.ref a)] [] h Q
  refine wp_steps (i' := 41) (ls' := [some (.ref a)]) (st' := []) (h' := crun (cop_189a a (mx_c h)) h) (P := (100 ≤ a ∧ ((([] : List Value).map mx_cat).sum ≤ 8)) ∧ (mxT (100 + (mx_c h + 0)) = (50, 769) ∧ ¬ (769 : Int32) < 0 ∧ mx_c h + 0 < 292) ∧ ((mxT a).1 = 11 ∧ a < 100 + (mx_c h + 1)) ∧ (mxT (100 + (mx_c h + 1)) = (50, 769) ∧ ¬ (769 : Int32) < 0 ∧ mx_c h + 1 < 292) ∧ ((mxT a).1 = 11 ∧ a < 100 + (mx_c h + 2)) ∧ (mxT (100 + (mx_c h + 2)) = (50, 369) ∧ ¬ (369 : Int32) < 0 ∧ mx_c h + 2 < 292) ∧ ((mxT a).1 = 11 ∧ a < 100 + (mx_c h + 3)) ∧ (mxT (100 + (mx_c h + 3)) = (50, 4428) ∧ ¬ (4428 : Int32) < 0 ∧ mx_c h + 3 < 292) ∧ ((mxT a).1 = 11 ∧ a < 100 + (mx_c h + 4)) ∧ (mxT (100 + (mx_c h + 4)) = (50, 400) ∧ ¬ (400 : Int32) < 0 ∧ mx_c h + 4 < 292) ∧ ((mxT a).1 = 11 ∧ a < 100 + (mx_c h + 5)) ∧ ((mxT a).1 = 11 ∧ a < 100 + (mx_c h + 5)) ∧ (mxT (100 + (mx_c h + 5)) = (50, 7) ∧ ¬ (7 : Int32) < 0 ∧ mx_c h + 5 < 292) ∧ ((mxT a).1 = 11 ∧ a < 100 + (mx_c h + 6)) ∧ (mxT (100 + (mx_c h + 6)) = (50, 1024) ∧ ¬ (1024 : Int32) < 0 ∧ mx_c h + 6 < 292) ∧ ((mxT a).1 = 11 ∧ a < 100 + (mx_c h + 7)) ∧ (mxT (100 + (mx_c h + 7)) = (50, 1024) ∧ ¬ (1024 : Int32) < 0 ∧ mx_c h + 7 < 292) ∧ ((mxT a).1 = 11 ∧ a < 100 + (mx_c h + 8)) ∧ (mxT (100 + (mx_c h + 8)) = (50, 6) ∧ ¬ (6 : Int32) < 0 ∧ mx_c h + 8 < 292) ∧ ((mxT a).1 = 11 ∧ a < 100 + (mx_c h + 9)) ∧ True) 41 rfl rfl ⟨⟨h1, Nat.le_of_ble_eq_true rfl⟩, ⟨hS 0 (by decide), by decide, by omega⟩, ⟨hT, Nat.lt_of_lt_of_le h2 (by omega)⟩, ⟨hS 1 (by decide), by decide, by omega⟩, ⟨hT, Nat.lt_of_lt_of_le h2 (by omega)⟩, ⟨hS 2 (by decide), by decide, by omega⟩, ⟨hT, Nat.lt_of_lt_of_le h2 (by omega)⟩, ⟨hS 3 (by decide), by decide, by omega⟩, ⟨hT, Nat.lt_of_lt_of_le h2 (by omega)⟩, ⟨hS 4 (by decide), by decide, by omega⟩, ⟨hT, Nat.lt_of_lt_of_le h2 (by omega)⟩, ⟨hT, Nat.lt_of_lt_of_le h2 (by omega)⟩, ⟨hS 5 (by decide), by decide, by omega⟩, ⟨hT, Nat.lt_of_lt_of_le h2 (by omega)⟩, ⟨hS 6 (by decide), by decide, by omega⟩, ⟨hT, Nat.lt_of_lt_of_le h2 (by omega)⟩, ⟨hS 7 (by decide), by decide, by omega⟩, ⟨hT, Nat.lt_of_lt_of_le h2 (by omega)⟩, ⟨hS 8 (by decide), by decide, by omega⟩, ⟨hT, Nat.lt_of_lt_of_le h2 (by omega)⟩, trivial⟩ ?_
  obtain ⟨g, eg⟩ : ∃ z, z = crun (cop_189a a (mx_c h)) h := ⟨_, rfl⟩
  rw [← eg]
  have gc : mx_c g = mx_c h + 9 := by rw [eg]; rfl
  have gr : mx_r g a 1 = 100 + (mx_c h + 0) := by rw [eg, crun_r, hc, ha]; rfl
  refine wp_steps (i' := 43) (ls' := [some (.ref a)]) (st' := [.ref (mx_r g a 1)]) (h' := g) (P := ((mxT a).1 = 11 ∧ a < 100 + mx_c g) ∧ True) 2 rfl rfl ⟨⟨hT, by omega⟩, trivial⟩ ?_
  rw [gr]
  refine wp_steps (i' := 46) (ls' := [some (.ref a)]) (st' := []) (h' := (mx_wi g (100 + (mx_c h + 0)) 1 (-1 : Int32))) (P := (((mxT (100 + (mx_c h + 0))).1 = 50 ∧ (100 + (mx_c h + 0)) < 100 + mx_c g) ∧ vp_in (1 : Int32) (mxT (100 + (mx_c h + 0))).2) ∧ True) 3 rfl rfl ⟨⟨⟨congrArg Prod.fst (hS 0 (by decide)), by omega⟩, by rw [hS 0 (by decide)]; exact vpl (by decide)⟩, trivial⟩ ?_
  refine wp_steps (i' := 48) (ls' := [some (.ref a)]) (st' := [.ref (mx_r g a 1)]) (h' := (mx_wi g (100 + (mx_c h + 0)) 1 (-1 : Int32))) (P := ((mxT a).1 = 11 ∧ a < 100 + mx_c g) ∧ True) 2 rfl rfl ⟨⟨hT, by omega⟩, trivial⟩ ?_
  rw [gr]
  refine wp_steps (i' := 51) (ls' := [some (.ref a)]) (st' := []) (h' := (mx_wi (mx_wi g (100 + (mx_c h + 0)) 1 (-1 : Int32)) (100 + (mx_c h + 0)) 6 (40 : Int32))) (P := (((mxT (100 + (mx_c h + 0))).1 = 50 ∧ (100 + (mx_c h + 0)) < 100 + mx_c g) ∧ vp_in (6 : Int32) (mxT (100 + (mx_c h + 0))).2) ∧ True) 3 rfl rfl ⟨⟨⟨congrArg Prod.fst (hS 0 (by decide)), by omega⟩, by rw [hS 0 (by decide)]; exact vpl (by decide)⟩, trivial⟩ ?_
  refine wp_steps (i' := 53) (ls' := [some (.ref a)]) (st' := [.ref (mx_r g a 1)]) (h' := (mx_wi (mx_wi g (100 + (mx_c h + 0)) 1 (-1 : Int32)) (100 + (mx_c h + 0)) 6 (40 : Int32))) (P := ((mxT a).1 = 11 ∧ a < 100 + mx_c g) ∧ True) 2 rfl rfl ⟨⟨hT, by omega⟩, trivial⟩ ?_
  rw [gr]
  refine wp_steps (i' := 56) (ls' := [some (.ref a)]) (st' := []) (h' := (mx_wi (mx_wi (mx_wi g (100 + (mx_c h + 0)) 1 (-1 : Int32)) (100 + (mx_c h + 0)) 6 (40 : Int32)) (100 + (mx_c h + 0)) 8 (1 : Int32))) (P := (((mxT (100 + (mx_c h + 0))).1 = 50 ∧ (100 + (mx_c h + 0)) < 100 + mx_c g) ∧ vp_in (8 : Int32) (mxT (100 + (mx_c h + 0))).2) ∧ True) 3 rfl rfl ⟨⟨⟨congrArg Prod.fst (hS 0 (by decide)), by omega⟩, by rw [hS 0 (by decide)]; exact vpl (by decide)⟩, trivial⟩ ?_
  exact wp_end (o := .inl none) (h' := (mx_wi (mx_wi (mx_wi g (100 + (mx_c h + 0)) 1 (-1 : Int32)) (100 + (mx_c h + 0)) 6 (40 : Int32)) (100 + (mx_c h + 0)) 8 (1 : Int32))) (P := True) rfl rfl trivial (k _ (by unfold cop_189; rw [crun_app, ← eg]; rfl) (by rw [← gc]; rfl))
def csh_102 : List (Nat × Nat) := [(5, 0), (50, 6), (50, 6), (50, 6), (50, 6), (50, 6), (7, 0), (50, 10), (50, 10), (50, 10), (50, 10), (50, 10), (1, 0), (50, 240), (50, 12)]
def cop_102 (a c : Nat) : List (Nat × Nat × Nat × Nat × Int32) := ([(0, 7, 0, 0, 0)] ++ cop_42 (100 + (c + 0)) (c + 1) ++ [(2, a, 0, 100 + (c + 0), 0)]) ++ ([(0, 6, 0, 0, 0)] ++ cop_65 (100 + (c + 6)) (c + 7) ++ [(2, a, 1, 100 + (c + 6), 0)]) ++ ([(0, 2, 0, 0, 0)] ++ cop_0 (100 + (c + 12)) (c + 13) ++ [(2, a, 2, 100 + (c + 12), 0)]) ++ ([(0, 12, 0, 0, 0), (2, a, 3, 100 + (c + 14), 0)]) ++ ([(1, a, 4, 0, (0 : Int32))]) ++ ([(1, a, 5, 0, (40 : Int32))]) ++ ([(1, a, 6, 0, (0 : Int32))]) ++ ([(1, a, 7, 0, (1 : Int32))]) ++ ([(1, a, 8, 0, (0 : Int32))])
theorem shp_sub {c k : Nat} {l m : List (Nat × Nat)} (h : shp c l) (e : ∀ i, i < m.length → k + i < l.length ∧ l.getD (k + i) (0, 0) = m.getD i (0, 0)) : shp (c + k) m := by
  intro i hi
  rw [Nat.add_assoc, h (k + i) (e i hi).1]
  exact (e i hi).2
set_option maxRecDepth 8000 in
theorem ct_102 {d : Nat} {h : mxH} {Q : mxO → mxH → Prop} {a : Nat} (hT : (mxT a).1 = 9) (h1 : 100 ≤ a) (h2 : a < 100 + mx_c h) (hS : shp (mx_c h) csh_102) (hb : mx_c h + 15 ≤ 292) (k : ∀ h1, h1 = crun (cop_102 a (mx_c h)) h → mx_c h1 = mx_c h + 15 → Q (.inl none) h1) : mx_wp (d + 1) 102 0 (mx_fr 102 [.ref a]) [] h Q := by
  show mx_wp (d + 1) 102 0 [some (.ref a)] [] h Q
  refine wp_steps (i' := 2) (ls' := [some (.ref a)]) (st' := []) (h' := h) (P := (100 ≤ a ∧ ((([] : List Value).map mx_cat).sum ≤ 8)) ∧ True) 2 rfl rfl ⟨⟨h1, Nat.le_of_ble_eq_true rfl⟩, trivial⟩ ?_
  have hc0 : mx_c h = mx_c h + 0 := rfl
  have E0 : h = crun [] h := rfl
  refine wp_steps (i' := 5) (ls' := [some (.ref a)]) (st' := [.ref (100 + mx_c h), .ref (100 + mx_c h), .ref a]) (h' := mx_mk h 7) (P := ((mxT (100 + mx_c h)).1 = 5 ∧ mx_c h < 292) ∧ True) 3 rfl rfl ⟨⟨by rw [hc0]; exact congrArg Prod.fst (hS 0 (by decide)), by omega⟩, trivial⟩ ?_
  obtain ⟨m0, em0⟩ : ∃ z, z = mx_mk h 7 := ⟨_, rfl⟩
  rw [← em0]
  have cm0 : mx_c m0 = mx_c h + 1 := by rw [em0]; rfl
  show mx_wp (d + 1) 102 5 [some (.ref a)] [.ref (100 + (mx_c h + 0)), .ref (100 + (mx_c h + 0)), .ref a] m0 Q
  refine wp_call (b := true) (y' := 42) (as := [.ref (100 + (mx_c h + 0))]) (rest := [.ref (100 + (mx_c h + 0)), .ref a]) (P := 100 ≤ (100 + (mx_c h + 0))) rfl (by with_unfolding_all rfl) (by omega) (Nat.le_of_ble_eq_true rfl) (ct_42 (congrArg Prod.fst (hS 0 (by decide))) (by omega) (by omega) (by rw [cm0]; exact shp_sub hS (by decide)) (by omega) (fun p0 ep0 cp0 => ?_))
  show mx_wp (d + 1) 102 6 [some (.ref a)] [.ref (100 + (mx_c h + 0)), .ref a] p0 Q
  rw [cm0] at ep0 cp0
  refine wp_steps (i' := 7) (ls' := [some (.ref a)]) (st' := []) (h' := mx_wr p0 a 0 (100 + (mx_c h + 0))) (P := ((mxT a).1 = 9 ∧ a < 100 + mx_c p0) ∧ True) 1 rfl rfl ⟨⟨hT, by omega⟩, trivial⟩ ?_
  obtain ⟨g1, eg1⟩ : ∃ z, z = mx_wr p0 a 0 (100 + (mx_c h + 0)) := ⟨_, rfl⟩
  rw [← eg1]
  have hc1 : mx_c g1 = mx_c h + 6 := by rw [eg1]; show mx_c p0 = _; rw [cp0]
  have E1 : g1 = crun (([(0, 7, 0, 0, 0)] ++ cop_42 (100 + (mx_c h + 0)) (mx_c h + 1) ++ [(2, a, 0, 100 + (mx_c h + 0), 0)])) h := by
    rw [crun_app, crun_app, eg1, ep0, em0]; rfl
  refine wp_steps (i' := 10) (ls' := [some (.ref a)]) (st' := [.ref (100 + mx_c g1), .ref (100 + mx_c g1), .ref a]) (h' := mx_mk g1 6) (P := ((mxT (100 + mx_c g1)).1 = 7 ∧ mx_c g1 < 292) ∧ True) 3 rfl rfl ⟨⟨by rw [hc1]; exact congrArg Prod.fst (hS 6 (by decide)), by omega⟩, trivial⟩ ?_
  obtain ⟨m1, em1⟩ : ∃ z, z = mx_mk g1 6 := ⟨_, rfl⟩
  rw [← em1, hc1]
  have cm1 : mx_c m1 = mx_c h + 7 := by rw [em1]; show mx_c g1 + 1 = _; rw [hc1]
  show mx_wp (d + 1) 102 10 [some (.ref a)] [.ref (100 + (mx_c h + 6)), .ref (100 + (mx_c h + 6)), .ref a] m1 Q
  refine wp_call (b := true) (y' := 65) (as := [.ref (100 + (mx_c h + 6))]) (rest := [.ref (100 + (mx_c h + 6)), .ref a]) (P := 100 ≤ (100 + (mx_c h + 6))) rfl (by with_unfolding_all rfl) (by omega) (Nat.le_of_ble_eq_true rfl) (ct_65 (congrArg Prod.fst (hS 6 (by decide))) (by omega) (by omega) (by rw [cm1]; exact shp_sub hS (by decide)) (by omega) (fun p1 ep1 cp1 => ?_))
  show mx_wp (d + 1) 102 11 [some (.ref a)] [.ref (100 + (mx_c h + 6)), .ref a] p1 Q
  rw [cm1] at ep1 cp1
  refine wp_steps (i' := 12) (ls' := [some (.ref a)]) (st' := []) (h' := mx_wr p1 a 1 (100 + (mx_c h + 6))) (P := ((mxT a).1 = 9 ∧ a < 100 + mx_c p1) ∧ True) 1 rfl rfl ⟨⟨hT, by omega⟩, trivial⟩ ?_
  obtain ⟨g2, eg2⟩ : ∃ z, z = mx_wr p1 a 1 (100 + (mx_c h + 6)) := ⟨_, rfl⟩
  rw [← eg2]
  have hc2 : mx_c g2 = mx_c h + 12 := by rw [eg2]; show mx_c p1 = _; rw [cp1]
  have E2 : g2 = crun (([(0, 7, 0, 0, 0)] ++ cop_42 (100 + (mx_c h + 0)) (mx_c h + 1) ++ [(2, a, 0, 100 + (mx_c h + 0), 0)]) ++ ([(0, 6, 0, 0, 0)] ++ cop_65 (100 + (mx_c h + 6)) (mx_c h + 7) ++ [(2, a, 1, 100 + (mx_c h + 6), 0)])) h := by
    rw [crun_app, ← E1, crun_app, crun_app, eg2, ep1, em1]; rfl
  refine wp_steps (i' := 15) (ls' := [some (.ref a)]) (st' := [.ref (100 + mx_c g2), .ref (100 + mx_c g2), .ref a]) (h' := mx_mk g2 2) (P := ((mxT (100 + mx_c g2)).1 = 1 ∧ mx_c g2 < 292) ∧ True) 3 rfl rfl ⟨⟨by rw [hc2]; exact congrArg Prod.fst (hS 12 (by decide)), by omega⟩, trivial⟩ ?_
  obtain ⟨m2, em2⟩ : ∃ z, z = mx_mk g2 2 := ⟨_, rfl⟩
  rw [← em2, hc2]
  have cm2 : mx_c m2 = mx_c h + 13 := by rw [em2]; show mx_c g2 + 1 = _; rw [hc2]
  show mx_wp (d + 1) 102 15 [some (.ref a)] [.ref (100 + (mx_c h + 12)), .ref (100 + (mx_c h + 12)), .ref a] m2 Q
  refine wp_call (b := true) (y' := 0) (as := [.ref (100 + (mx_c h + 12))]) (rest := [.ref (100 + (mx_c h + 12)), .ref a]) (P := 100 ≤ (100 + (mx_c h + 12))) rfl (by with_unfolding_all rfl) (by omega) (Nat.le_of_ble_eq_true rfl) (ct_0 (congrArg Prod.fst (hS 12 (by decide))) (by omega) (by omega) (by rw [cm2]; exact shp_sub hS (by decide)) (by omega) (fun p2 ep2 cp2 => ?_))
  show mx_wp (d + 1) 102 16 [some (.ref a)] [.ref (100 + (mx_c h + 12)), .ref a] p2 Q
  rw [cm2] at ep2 cp2
  refine wp_steps (i' := 17) (ls' := [some (.ref a)]) (st' := []) (h' := mx_wr p2 a 2 (100 + (mx_c h + 12))) (P := ((mxT a).1 = 9 ∧ a < 100 + mx_c p2) ∧ True) 1 rfl rfl ⟨⟨hT, by omega⟩, trivial⟩ ?_
  obtain ⟨g3, eg3⟩ : ∃ z, z = mx_wr p2 a 2 (100 + (mx_c h + 12)) := ⟨_, rfl⟩
  rw [← eg3]
  have hc3 : mx_c g3 = mx_c h + 14 := by rw [eg3]; show mx_c p2 = _; rw [cp2]
  have E3 : g3 = crun (([(0, 7, 0, 0, 0)] ++ cop_42 (100 + (mx_c h + 0)) (mx_c h + 1) ++ [(2, a, 0, 100 + (mx_c h + 0), 0)]) ++ ([(0, 6, 0, 0, 0)] ++ cop_65 (100 + (mx_c h + 6)) (mx_c h + 7) ++ [(2, a, 1, 100 + (mx_c h + 6), 0)]) ++ ([(0, 2, 0, 0, 0)] ++ cop_0 (100 + (mx_c h + 12)) (mx_c h + 13) ++ [(2, a, 2, 100 + (mx_c h + 12), 0)])) h := by
    rw [crun_app, ← E2, crun_app, crun_app, eg3, ep2, em2]; rfl
  refine wp_steps (i' := 36) (ls' := [some (.ref a)]) (st' := []) (h' := (mx_wi (mx_wi (mx_wi (mx_wi (mx_wi (mx_wr (mx_mk g3 12) a 3 (100 + mx_c g3)) a 4 (0 : Int32)) a 5 (40 : Int32)) a 6 (0 : Int32)) a 7 (1 : Int32)) a 8 (0 : Int32))) (P := (mxT (100 + mx_c g3) = (50, 12) ∧ ¬ (12 : Int32) < 0 ∧ mx_c g3 < 292) ∧ ((mxT a).1 = 9 ∧ a < 100 + (mx_c g3 + 1)) ∧ ((mxT a).1 = 9 ∧ a < 100 + (mx_c g3 + 1)) ∧ ((mxT a).1 = 9 ∧ a < 100 + (mx_c g3 + 1)) ∧ ((mxT a).1 = 9 ∧ a < 100 + (mx_c g3 + 1)) ∧ ((mxT a).1 = 9 ∧ a < 100 + (mx_c g3 + 1)) ∧ ((mxT a).1 = 9 ∧ a < 100 + (mx_c g3 + 1)) ∧ True) 19 rfl rfl ⟨⟨by rw [hc3]; exact hS 14 (by decide), by decide, by omega⟩, ⟨hT, by omega⟩, ⟨hT, by omega⟩, ⟨hT, by omega⟩, ⟨hT, by omega⟩, ⟨hT, by omega⟩, ⟨hT, by omega⟩, trivial⟩ ?_
  refine wp_end (o := .inl none) (h' := (mx_wi (mx_wi (mx_wi (mx_wi (mx_wi (mx_wr (mx_mk g3 12) a 3 (100 + mx_c g3)) a 4 (0 : Int32)) a 5 (40 : Int32)) a 6 (0 : Int32)) a 7 (1 : Int32)) a 8 (0 : Int32))) (P := True) rfl rfl trivial (k _ ?_ ?_)
  · unfold cop_102
    rw [crun_app, crun_app, crun_app, crun_app, crun_app, crun_app,  ← E3, hc3]; rfl
  · show mx_c g3 + 1 = _; rw [hc3]
