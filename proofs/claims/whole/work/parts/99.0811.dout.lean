/-! SHARE: dealOut -/
/-- who is at the place -/
def hrA (r : Nat → Int32) (pl : Int32) (x : Nat) : Bool := decide (r (33 + 6 * x + 2) = pl)
/-- what those of the first i wear -/
def wnA (r : Nat → Int32) (pl : Int32) (i z : Nat) : Bool := decide (r (69 + 6 * z + 3) = 0) && (List.range i).any (fun x => hrA r pl x && decide (r (69 + 6 * z + 4) = nI x))
theorem wnA_s {r : Nat → Int32} {pl : Int32} {i z : Nat} : wnA r pl (i + 1) z = (wnA r pl i z || (hrA r pl i && decide (r (69 + 6 * z + 3) = 0 ∧ r (69 + 6 * z + 4) = nI i))) := by
  unfold wnA
  rw [List.range_succ, List.any_append]
  simp only [List.any_cons, List.any_nil, Bool.or_false]
  by_cases c : r (69 + 6 * z + 3) = 0 <;> simp [c]
theorem orS_or {n : Nat} {p q : Nat → Bool} (hn : n ≤ 10) : orS n p ||| orS n q = orS n (fun z => p z || q z) := by
  apply b_ext
  intro i hi
  rw [b_or, bt_orS (by omega) _ hi, bt_orS (by omega) _ hi, bt_orS (by omega) _ hi]
  by_cases c : i < n <;> simp [c]
section
variable {d a np ns nl : Nat} {h0 : mxH} {Q : mxO → mxH → Prop} {r : Nat → Int32} {pl : Int32}
theorem H9a (hVa : (mxT a).1 = 9) (C : CpN (vw h0 a) r np ns nl) (G0 : mxG h0) (z6 : mx_i h0 109 6 = 0) (kont : ∀ h1, mxU (fun b => b = 109 ∨ b = 110 ∨ b = 111) h0 h1 → mx_i h1 109 2 = nI (cN (hrA r pl) np) → mx_i h1 109 6 = 0 → (∀ x, x < np → hrA r pl x = true → mx_i h1 110 (cN (hrA r pl) x) = nI x) → (∀ k, k < cN (hrA r pl) np → mx_i h1 111 k = 0) → ∀ h2, h2 = mx_wi h1 109 8 0 → H_9_54 (d + 19) h2 a (orS ns (wnA r pl np)) 0 Q) : ∀ j i h, i + j = np → mxU (fun b => b = 109 ∨ b = 110 ∨ b = 111) h0 h → mx_i h 109 2 = nI (cN (hrA r pl) i) → mx_i h 109 6 = 0 → (∀ x, x < i → hrA r pl x = true → mx_i h 110 (cN (hrA r pl) x) = nI x) → (∀ k, k < cN (hrA r pl) i → mx_i h 111 k = 0) → H_9_10 (d + 19) h a pl (orS ns (wnA r pl i)) (nI i) Q := by
  have ga := va_gt hVa
  have n6 := C_np6 C
  have n10 := C_ns10 C
  intro j
  induction j with
  | zero =>
    intro i h hi U e2 e6 e110 e111
    have hi' : i = np := by omega
    subst hi'
    refine tr_9_10 (mxU_G U G0) hVa ⟨fun q => ?_, fun _ h2 eh => kont h U e2 e6 e110 e111 h2 eh⟩
    rw [mxU_i U (by omega), C_p C] at q
    exact absurd q Int32.lt_irrefl
  | succ j ih =>
    intro i h hi U e2 e6 e110 e111
    have Ci : CpN (vw h a) r np ns nl := CpN_congr (fun k j _ => by
      show mx_i h (a + k) j = mx_i h0 (a + k) j
      rw [mxU_i U (by omega)]) (fun _ _ _ _ => rfl) C
    have cl := cN_le (p := hrA r pl) i
    have es : cN (hrA r pl) (i + 1) = cN (hrA r pl) i + (if hrA r pl i = true then 1 else 0) := rfl
    have ep : mx_i h (a + 4) i = r (33 + 6 * i + 2) := Cu4 Ci (by omega)
    refine tr_9_10 (mxU_G U G0) hVa ⟨fun _ => ⟨vp_in_nI (by omega) (by decide), fun q => ?_, fun q => ?_⟩, fun q => absurd (by rw [C_p Ci]; exact nI_lt (by omega) (by omega)) q⟩
    · rw [nI_clamp (by omega), ep] at q
      have hr : hrA r pl i = true := decide_eq_true q
      rw [if_pos hr] at es
      refine ⟨by rw [e2]; exact vp_in_nI (by omega) (by decide), fun h8 e8 => ?_⟩
      have q8 : mx_i h8 109 2 = nI (cN (hrA r pl) i) := by rw [e8, wi_ne (by decide)]; exact e2
      refine ⟨by rw [q8]; exact vp_in_nI (by omega) (by decide), fun h12 e12 h15 e15 => ?_⟩
      rw [e2, nI_clamp (by omega)] at e8
      rw [q8, nI_clamp (by omega)] at e12
      have q12 : mx_i h12 109 2 = nI (cN (hrA r pl) i) := by rw [e12, wi_ne (by decide)]; exact q8
      rw [q12, nI_1] at e15
      have U15 : mxU (fun b => b = 109 ∨ b = 110 ∨ b = 111) h h15 := by rw [e15, e12, e8]; exact mxU_tr (mxU_tr (mxU_wi (.inr (.inl rfl))) (mxU_wi (.inr (.inr rfl)))) (mxU_wi (.inl rfl))
      have C15 : CpN (vw h15 a) r np ns nl := CpN_congr (fun k j _ => by
        show mx_i h15 (a + k) j = mx_i h (a + k) j
        rw [mxU_i U15 (by omega)]) (fun _ _ _ _ => rfl) Ci
      refine ⟨C_cs C15, ?_⟩
      have ev : orS ns (wnA r pl i) ||| V_71 h15 a (nI i) = orS ns (wnA r pl (i + 1)) := by
        rw [cm_worn C15 (nI_ne1 (by omega)), md_203 (C_ns C15) n10, orS_or n10]
        refine orS_congr (fun z _ => ?_)
        rw [wnA_s, hr]
        rfl
      rw [ev, nI_1]
      refine ih (i + 1) h15 (by omega) (mxU_tr U U15) (by rw [e15, wi_at rfl rfl, es]) (by rw [e15, wi_nj (by decide), e12, wi_ne (by decide), e8, wi_ne (by decide)]; exact e6) (fun x hx hx2 => ?_) (fun k hk => ?_)
      · rw [e15, wi_ne (by decide), e12, wi_ne (by decide), e8, wi_row]
        by_cases z : x = i
        · rw [z, if_pos rfl]
        · have l : cN (hrA r pl) x < cN (hrA r pl) i := (enB_at (p := hrA r pl) (N := i) (by omega) hx2).1
          rw [if_neg (by omega)]
          exact e110 x (by omega) hx2
      · rw [e15, wi_ne (by decide), e12, wi_row]
        by_cases z : k = cN (hrA r pl) i
        · rw [if_pos z]
        · rw [if_neg z, e8, wi_ne (by decide)]
          exact e111 k (by omega)
    · rw [nI_clamp (by omega), ep] at q
      have hr : hrA r pl i = false := decide_eq_false q
      have es' : cN (hrA r pl) (i + 1) = cN (hrA r pl) i := by rw [es, hr]; rfl
      have ew : orS ns (wnA r pl i) = orS ns (wnA r pl (i + 1)) := orS_congr (fun z _ => by rw [wnA_s, hr]; simp)
      rw [ew, nI_1]
      refine ih (i + 1) h (by omega) U (by rw [es']; exact e2) e6 (fun x hx hx2 => ?_) (fun k hk => e111 k (by omega))
      by_cases z : x = i
      · rw [z, hr] at hx2; exact absurd hx2 (by decide)
      · exact e110 x (by omega) hx2
end
section
variable {d a np ns nl : Nat} {h0 : mxH} {Q : mxO → mxH → Prop} {r : Nat → Int32} {S : Nat → Bool}
/-- the greatest weight so far -/
def gwN (w : Nat → Nat) (S : Nat → Bool) : Nat → Nat
  | 0 => 0
  | n + 1 => if S n = true then max (gwN w S n) (w n) else gwN w S n
theorem gwN_le {w : Nat → Nat} {S : Nat → Bool} {B : Nat} (h : ∀ z, S z = true → w z ≤ B) : ∀ n, gwN w S n ≤ B := by
  intro n
  induction n with
  | zero => exact Nat.zero_le _
  | succ n ih =>
    show (if S n = true then max (gwN w S n) (w n) else gwN w S n) ≤ B
    by_cases c : S n = true
    · rw [if_pos c]; exact Nat.max_le.mpr ⟨ih, h n c⟩
    · rw [if_neg c]; exact ih
theorem H9b (hVa : (mxT a).1 = 9) (C : CpN (vw h0 a) r np ns nl) (G0 : mxG h0) (kont : ∀ h1, mxU (fun b => b = 109 ∨ b = 112) h0 h1 → mx_i h1 109 2 = mx_i h0 109 2 → mx_i h1 109 6 = nI (cN S ns) → mx_i h1 109 8 = nI (gwN (wR r ns) S ns) → (∀ z, z < ns → S z = true → mx_i h1 112 (cN S z) = nI (wR r ns z)) → H_9_54 (d + 19) h1 a (orS ns S) (nI ns) Q) : ∀ j i h, i + j = ns → mxU (fun b => b = 109 ∨ b = 112) h0 h → mx_i h 109 2 = mx_i h0 109 2 → mx_i h 109 6 = nI (cN S i) → mx_i h 109 8 = nI (gwN (wR r ns) S i) → (∀ z, z < i → S z = true → mx_i h 112 (cN S z) = nI (wR r ns z)) → H_9_54 (d + 19) h a (orS ns S) (nI i) Q := by
  have ga := va_gt hVa
  have n10 := C_ns10 C
  intro j
  induction j with
  | zero =>
    intro i h hi U e2 e6 e8 e112
    have hi' : i = ns := by omega
    subst hi'
    exact kont h U e2 e6 e8 e112
  | succ j ih =>
    intro i h hi U e2 e6 e8 e112
    have Ci : CpN (vw h a) r np ns nl := CpN_congr (fun k j _ => by
      show mx_i h (a + k) j = mx_i h0 (a + k) j
      rw [mxU_i U (by omega)]) (fun _ _ _ _ => rfl) C
    have cl := cN_le (p := S) i
    have wr := wR_e Ci (show i < ns by omega)
    have gb : gwN (wR r ns) S i ≤ 40 := gwN_le (fun z _ => by
      by_cases c : z < ns
      · exact (wR_e Ci c).2
      · unfold wR; rw [if_neg c]; omega) i
    have ew : mx_i h (a + 10) i = nI (wR r ns i) := (Cs10 Ci (by omega)).trans wr.1
    have tb : ((orS ns S >>> (nI i &&& 31)) &&& 1 = 1) ↔ S i = true := by
      rw [tb1 _ (by omega), bt_orS (by omega) _ (by omega), decide_eq_true (show i < ns by omega), Bool.true_and]
    have es : cN S (i + 1) = cN S i + (if S i = true then 1 else 0) := rfl
    have eg : gwN (wR r ns) S (i + 1) = if S i = true then max (gwN (wR r ns) S i) (wR r ns i) else gwN (wR r ns) S i := rfl
    refine tr_9_54 (mxU_G U G0) hVa ⟨fun _ => ⟨fun q => ?_, fun q => ?_⟩, fun q => absurd (by rw [C_s Ci]; exact nI_lt (by omega) (by omega)) q⟩
    · have hs := tb.mp q
      rw [if_pos hs] at es eg
      refine ⟨vp_in_nI (by omega) (by decide), by rw [e6]; exact vp_in_nI (by omega) (by decide), fun h19 e19 h22 e22 h25 e25 => ?_⟩
      rw [e6, nI_clamp (by omega), nI_clamp (by omega), ew] at e19
      have a19 : ∀ b, b ≠ 112 → mx_i h19 b = mx_i h b := fun b hb => by rw [e19, wi_ne hb]
      rw [a19 109 (by decide), a19 (a + 10) (by omega), nI_clamp (by omega), ew, e8] at e22
      have mx : (if nI (gwN (wR r ns) S i) < nI (wR r ns i) then nI (wR r ns i) else nI (gwN (wR r ns) S i)) = nI (max (gwN (wR r ns) S i) (wR r ns i)) := by
        by_cases z : gwN (wR r ns) S i < wR r ns i
        · rw [if_pos (nI_lt z (by omega)), Nat.max_eq_right (by omega)]
        · rw [if_neg (by rw [nI_lt_iff (by omega) (by omega)]; exact z), Nat.max_eq_left (by omega)]
      rw [mx] at e22
      have q22 : mx_i h22 109 6 = nI (cN S i) := by rw [e22, wi_nj (by decide), a19 109 (by decide)]; exact e6
      rw [q22, nI_1] at e25
      rw [nI_1]
      refine ih (i + 1) h25 (by omega) (mxU_tr U (by rw [e25, e22, e19]; exact mxU_tr (mxU_tr (mxU_wi (.inr rfl)) (mxU_wi (.inl rfl))) (mxU_wi (.inl rfl)))) (by rw [e25, wi_nj (by decide), e22, wi_nj (by decide), a19 109 (by decide)]; exact e2) (by rw [e25, wi_at rfl rfl, es]) (by rw [e25, wi_nj (by decide), e22, wi_at rfl rfl, eg]) (fun z hz hz2 => ?_)
      rw [e25, wi_ne (by decide), e22, wi_ne (by decide), e19, wi_row]
      by_cases q : z = i
      · rw [q, if_pos rfl]
      · have l : cN S z < cN S i := (enB_at (p := S) (N := i) (by omega) hz2).1
        rw [if_neg (by omega)]
        exact e112 z (by omega) hz2
    · have hs : S i = false := by
        cases c : S i with
        | false => rfl
        | true => exact absurd (tb.mpr c) q
      rw [hs] at es eg
      rw [nI_1]
      refine ih (i + 1) h (by omega) U e2 (by rw [es]; exact e6) (by rw [eg]; exact e8) (fun z hz hz2 => ?_)
      by_cases q : z = i
      · rw [q, hs] at hz2; exact absurd hz2 (by decide)
      · exact e112 z (by omega) hz2
end
