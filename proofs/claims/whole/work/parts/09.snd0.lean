/-! SOUNDNESS, 0: how the small heap lies in the heap -/
/-- where the made cells begin; classes and slots; array classes; addresses of the constants; one unknown reference; the script and its length -/
abbrev mxGl : Type := Nat × va_G × (Nat → ClassId) × (Nat → Nat) × Value × (Nat → Int32) × Nat
def g_N (G : mxGl) : Nat := G.1
def g_D (G : mxGl) : va_G := G.2.1
def g_A (G : mxGl) : Nat → ClassId := G.2.2.1
def g_a (G : mxGl) : Nat → Nat := G.2.2.2.1
def g_v (G : mxGl) : Value := G.2.2.2.2.1
def g_x (G : mxGl) : Nat → Int32 := G.2.2.2.2.2.1
def g_L (G : mxGl) : Nat := G.2.2.2.2.2.2
def g_F (G : mxGl) : Nat → Prop := fun q => g_N G ≤ q
def mx_rc (G : mxGl) (n : Nat) : Value := if n = 0 then .null else if n = 29 then g_v G else if n < 100 then .ref (g_a G n) else .ref (g_N G + (n - 100))
def mx_rv (G : mxGl) (v : Value) : Value := match v with
  | .ref n => mx_rc G n
  | v => v
def mx_ro (G : mxGl) (n : Nat) : Option Nat := match mx_rc G n with
  | .ref a => some a
  | _ => none
def mx_tys (G : mxGl) : List (ClassId × FieldType) := [(g_A G 0, .int), (g_A G 1, .byte), (g_A G 2, .long), (g_A G 3, .object "StoneBacks$Word"), (g_A G 4, .object "StoneBacks$Valley")]
def mx_fv (G : mxGl) (h : mxH) (ci a k : Nat) : Value := if mxFi ci k = true then .int (mx_i h a k) else mx_rc G (mx_r h a k)
def mx_fs (G : mxGl) (h : mxH) (ci a : Nat) : List Value := (List.range (mxNf ci)).map (mx_fv G h ci a)
def mx_E (G : mxGl) (h : mxH) (a : Nat) : va_E :=
  if (mxT a).1 = 50 then .inl (g_A G 0, (mxT a).2, .inl (mx_i h a))
  else if (mxT a).1 = 51 then .inl (g_A G 1, (mxT a).2, .inl (mx_i h a))
  else if (mxT a).1 = 52 then .inl (g_A G 2, (mxT a).2, .inr (.inl (mx_l h a)))
  else if (mxT a).1 = 53 then .inl (g_A G 3, (mxT a).2, .inr (.inr (.inr (.inr (fun j => mx_ro G (mx_r h a j))))))
  else if (mxT a).1 = 54 then .inl (g_A G 4, (mxT a).2, .inr (.inr (.inr (.inr (fun j => mx_ro G (mx_r h a j))))))
  else .inr ((mxT a).1 - 1, mx_fs G h ((mxT a).1 - 1) a)
def mx_ws (G : mxGl) (h : mxH) : va_W := (List.range (mx_c h)).map (fun i => (g_N G + i, mx_E G h (100 + i)))
def mx_Rep (G : mxGl) (h : mxH) (H : Heap) : Prop := (mx_c h < 292 → H.size = g_N G + mx_c h) ∧ va_P (g_D G) vwCl (mx_ws G h) H ∧ (mx_r h 1 0 = g_L G ∧ ∀ j, j < g_L G → mx_i h 1 j = g_x G j) ∧ mx_c h ≤ 292
theorem mx_ws_get (G : mxGl) {h : mxH} {i : Nat} (hi : i < mx_c h) : (mx_ws G h)[i]? = some (g_N G + i, mx_E G h (100 + i)) := by
  unfold mx_ws
  rw [List.getElem?_map, List.getElem?_range hi]
  rfl
theorem mx_ws_len (G : mxGl) (h : mxH) : (mx_ws G h).length = mx_c h := by unfold mx_ws; rw [List.length_map, List.length_range]
theorem mx_ws_at (G : mxGl) {h : mxH} {i : Nat} {q : Nat × va_E} (hq : (mx_ws G h)[i]? = some q) : i < mx_c h ∧ q = (g_N G + i, mx_E G h (100 + i)) := by
  have hi : i < mx_c h := by
    have := (List.getElem?_eq_some_iff.mp hq).1
    rwa [mx_ws_len] at this
  rw [mx_ws_get G hi] at hq
  exact ⟨hi, (Option.some.inj hq).symm⟩
theorem mx_ws_D (G : mxGl) (h : mxH) : va_D (g_F G) (mx_ws G h) := by
  refine ⟨fun i j p q hp hq e => ?_, fun k q hq => ?_⟩
  · obtain ⟨-, rfl⟩ := mx_ws_at G hp
    obtain ⟨-, rfl⟩ := mx_ws_at G hq
    simp only at e
    omega
  · obtain ⟨-, rfl⟩ := mx_ws_at G hq
    show g_N G ≤ g_N G + k
    omega
theorem mx_ws_set (G : mxGl) {h h' : mxH} {i : Nat} {e : va_E} (hc : mx_c h' = mx_c h) (he : mx_E G h' (100 + i) = e) (ho : ∀ j, j ≠ i → mx_E G h' (100 + j) = mx_E G h (100 + j)) : (mx_ws G h).set i (g_N G + i, e) = mx_ws G h' := by
  apply List.ext_getElem?
  intro j
  rw [List.getElem?_set]
  by_cases hj : i = j
  · subst hj
    rw [if_pos rfl, mx_ws_len]
    by_cases hi : i < mx_c h
    · rw [if_pos hi, mx_ws_get G (by rw [hc]; exact hi), he]
    · rw [if_neg hi]
      symm
      rw [List.getElem?_eq_none_iff, mx_ws_len, hc]
      omega
  · rw [if_neg hj]
    by_cases hi : j < mx_c h
    · rw [mx_ws_get G hi, mx_ws_get G (by rw [hc]; exact hi), ho j (fun q => hj q.symm)]
    · have h1 : (mx_ws G h)[j]? = none := by rw [List.getElem?_eq_none_iff, mx_ws_len]; omega
      have h2 : (mx_ws G h')[j]? = none := by rw [List.getElem?_eq_none_iff, mx_ws_len, hc]; omega
      rw [h1, h2]
theorem mx_ws_push (G : mxGl) {h h' : mxH} {e : va_E} (hc : mx_c h' = mx_c h + 1) (he : mx_E G h' (100 + mx_c h) = e) (ho : ∀ j, j < mx_c h → mx_E G h' (100 + j) = mx_E G h (100 + j)) : mx_ws G h ++ [(g_N G + mx_c h, e)] = mx_ws G h' := by
  unfold mx_ws
  rw [hc, List.range_succ, List.map_append]
  congr 1
  · apply List.map_congr_left
    intro j hj
    rw [ho j (List.mem_range.mp hj)]
  · simp [he]
/-! reads behind writes -/
theorem mx_up_eq {α : Type} (f : Nat → Nat → α) (a k : Nat) (v : α) : mx_up f a k v a = fun j => if j = k then v else f a j := by
  funext j
  unfold mx_up
  by_cases h : j = k
  · rw [if_pos ⟨rfl, h⟩, if_pos h]
  · rw [if_neg (fun q => h q.2), if_neg h]
theorem mx_up_ne {α : Type} (f : Nat → Nat → α) {a b : Nat} (k : Nat) (v : α) (h : b ≠ a) : mx_up f a k v b = f b := by
  funext j
  unfold mx_up
  exact if_neg (fun q => h q.1)
theorem mx_rw_eq {α : Type} (f : Nat → Nat → α) (a : Nat) (g : Nat → α) : mx_rw f a g a = g := by
  funext j
  unfold mx_rw
  exact if_pos rfl
theorem mx_rw_ne {α : Type} (f : Nat → Nat → α) {a b : Nat} (g : Nat → α) (h : b ≠ a) : mx_rw f a g b = f b := by
  funext j
  unfold mx_rw
  exact if_neg h
theorem mx_E_congr (G : mxGl) {h h' : mxH} {a : Nat} (hi : mx_i h' a = mx_i h a) (hr : mx_r h' a = mx_r h a) (hl : mx_l h' a = mx_l h a) : mx_E G h' a = mx_E G h a := by
  have hf : ∀ ci, mx_fs G h' ci a = mx_fs G h ci a := by
    intro ci
    unfold mx_fs
    apply List.map_congr_left
    intro k _
    unfold mx_fv
    rw [hi, hr]
  unfold mx_E
  rw [hi, hr, hl, hf]
/-! cells by their shapes -/
theorem mx_E_i (G : mxGl) {h : mxH} {a : Nat} (e : (mxT a).1 = 50) : mx_E G h a = .inl (g_A G 0, (mxT a).2, .inl (mx_i h a)) := by unfold mx_E; rw [if_pos e]
theorem mx_E_b (G : mxGl) {h : mxH} {a : Nat} (e : (mxT a).1 = 51) : mx_E G h a = .inl (g_A G 1, (mxT a).2, .inl (mx_i h a)) := by unfold mx_E; rw [if_neg (by omega), if_pos e]
theorem mx_E_l (G : mxGl) {h : mxH} {a : Nat} (e : (mxT a).1 = 52) : mx_E G h a = .inl (g_A G 2, (mxT a).2, .inr (.inl (mx_l h a))) := by unfold mx_E; rw [if_neg (by omega), if_neg (by omega), if_pos e]
theorem mx_E_w (G : mxGl) {h : mxH} {a : Nat} (e : (mxT a).1 = 53) : mx_E G h a = .inl (g_A G 3, (mxT a).2, .inr (.inr (.inr (.inr (fun j => mx_ro G (mx_r h a j)))))) := by unfold mx_E; rw [if_neg (by omega), if_neg (by omega), if_neg (by omega), if_pos e]
theorem mx_E_v (G : mxGl) {h : mxH} {a : Nat} (e : (mxT a).1 = 54) : mx_E G h a = .inl (g_A G 4, (mxT a).2, .inr (.inr (.inr (.inr (fun j => mx_ro G (mx_r h a j)))))) := by unfold mx_E; rw [if_neg (by omega), if_neg (by omega), if_neg (by omega), if_neg (by omega), if_pos e]
theorem mx_E_o (G : mxGl) {h : mxH} {a ci : Nat} (e : (mxT a).1 = ci + 1) (hc : ci < 11) : mx_E G h a = .inr (ci, mx_fs G h ci a) := by
  unfold mx_E
  rw [if_neg (by omega), if_neg (by omega), if_neg (by omega), if_neg (by omega), if_neg (by omega), show (mxT a).1 - 1 = ci by omega]
theorem mx_T_lt {a : Nat} (h : (mxT a).1 ≠ 0) : 100 ≤ a ∧ a < 392 := by
  unfold mxT at h
  by_cases h1 : a < 100
  · rw [if_pos h1] at h; exact absurd rfl h
  · refine ⟨by omega, ?_⟩
    rw [if_neg h1] at h
    by_cases h2 : a < 392
    · exact h2
    · exfalso
      apply h
      have : mxTL.length = 292 := by decide +kernel
      rw [List.getD_eq_getElem?_getD, List.getElem?_eq_none (by omega)]
      rfl
theorem mx_rc_obj (G : mxGl) {n : Nat} (h : 100 ≤ n) : mx_rc G n = .ref (g_N G + (n - 100)) := by
  unfold mx_rc
  rw [if_neg (by omega), if_neg (by omega), if_neg (by omega)]
theorem mx_rc_const (G : mxGl) {n : Nat} (h0 : n ≠ 0) (h1 : n ≠ 29) (h2 : n < 100) : mx_rc G n = .ref (g_a G n) := by
  unfold mx_rc
  rw [if_neg h0, if_neg h1, if_pos h2]
theorem mx_rc_null (G : mxGl) : mx_rc G 0 = .null := rfl
def g_ok (G : mxGl) : Prop := g_v G = .null ∨ ∃ a, g_v G = .ref a
theorem mx_rc_kind (G : mxGl) (hG : g_ok G) (n : Nat) : mx_rc G n = .null ∨ ∃ a, mx_rc G n = .ref a := by
  unfold mx_rc
  by_cases h0 : n = 0
  · rw [if_pos h0]; exact Or.inl rfl
  · rw [if_neg h0]
    by_cases h1 : n = 29
    · rw [if_pos h1]; exact hG
    · rw [if_neg h1]
      by_cases h2 : n < 100
      · rw [if_pos h2]; exact Or.inr ⟨_, rfl⟩
      · rw [if_neg h2]; exact Or.inr ⟨_, rfl⟩
theorem mx_ro_rf (G : mxGl) (hG : g_ok G) (n : Nat) : va_rf (mx_ro G n) = mx_rc G n := by
  unfold mx_ro
  rcases mx_rc_kind G hG n with h | ⟨a, h⟩
  · rw [h]; rfl
  · rw [h]; rfl
theorem mx_ro_of (G : mxGl) {n a : Nat} (h : mx_rc G n = .ref a) : mx_ro G n = some a := by unfold mx_ro; rw [h]
theorem mx_ro_null (G : mxGl) : mx_ro G 0 = none := rfl
theorem mx_rv_cat (G : mxGl) (hG : g_ok G) (v : Value) : (mx_rv G v).category = v.category := by
  cases v with
  | ref n =>
    show (mx_rc G n).category = 1
    rcases mx_rc_kind G hG n with h | ⟨a, h⟩ <;> rw [h] <;> rfl
  | _ => rfl
theorem mx_fs_len (G : mxGl) (h : mxH) (ci a : Nat) : (mx_fs G h ci a).length = mxNf ci := by unfold mx_fs; rw [List.length_map, List.length_range]
theorem mx_fs_get (G : mxGl) {h : mxH} {ci a k : Nat} (hk : k < mxNf ci) : (mx_fs G h ci a)[k]? = some (mx_fv G h ci a k) := by
  unfold mx_fs
  rw [List.getElem?_map, List.getElem?_range hk]
  rfl
theorem mx_fs_set (G : mxGl) {h h' : mxH} {ci a k : Nat} {v : Value} (he : mx_fv G h' ci a k = v) (ho : ∀ j, j ≠ k → mx_fv G h' ci a j = mx_fv G h ci a j) : (mx_fs G h ci a).set k v = mx_fs G h' ci a := by
  apply List.ext_getElem?
  intro j
  rw [List.getElem?_set]
  by_cases hj : k = j
  · subst hj
    rw [if_pos rfl, mx_fs_len]
    by_cases hi : k < mxNf ci
    · rw [if_pos hi, mx_fs_get G hi, he]
    · rw [if_neg hi]
      symm
      rw [List.getElem?_eq_none_iff, mx_fs_len]
      omega
  · rw [if_neg hj]
    by_cases hi : j < mxNf ci
    · rw [mx_fs_get G hi, mx_fs_get G hi, ho j (fun q => hj q.symm)]
    · have h1 : (mx_fs G h ci a)[j]? = none := by rw [List.getElem?_eq_none_iff, mx_fs_len]; omega
      have h2 : (mx_fs G h' ci a)[j]? = none := by rw [List.getElem?_eq_none_iff, mx_fs_len]; omega
      rw [h1, h2]
