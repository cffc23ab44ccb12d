/-! SPECS by hand, 34: goes: the class -/
def ld (l : Nat → Nat) (z : Nat) : Nat := (if z.testBit 0 = true then l 0 else 0) + (if z.testBit 1 = true then l 1 else 0) + (if z.testBit 2 = true then l 2 else 0) + (if z.testBit 3 = true then l 3 else 0) + (if z.testBit 4 = true then l 4 else 0) + (if z.testBit 5 = true then l 5 else 0)
def cd (l : Nat → Nat) (lim : Nat) (f : Nat → Option Nat) (z go : Nat) : Option Nat := if go &&& z = go ∧ ld l go ≤ lim then (match f (z &&& (63 ^^^ go)) with
  | none => none
  | some v => some (v + 1)) else none
def mnO (x y : Option Nat) : Option Nat := match y with
  | none => x
  | some b => match x with
    | none => some b
    | some a => if b < a then some b else some a
def fb (c : Nat → Option Nat) : Nat → Option Nat
  | 0 => none
  | k + 1 => mnO (fb c k) (c (k + 1))
def tbG (l : Nat → Nat) (lim : Nat) : Nat → Nat → Option Nat
  | 0 => fun _ => some 0
  | n + 1 => fun i => if i = n + 1 then fb (cd l lim (tbG l lim n) (n + 1)) (n + 1) else tbG l lim n i
def mG (l : Nat → Nat) (lim z : Nat) : Option Nat := tbG l lim z z
theorem tbG_le {l : Nat → Nat} {lim : Nat} : ∀ n i, i ≤ n → tbG l lim n i = mG l lim i := by
  intro n
  induction n with
  | zero => intro i hi; obtain rfl : i = 0 := by omega
            rfl
  | succ n ih =>
    intro i hi
    by_cases c : i = n + 1
    · subst c; rfl
    · show (if i = n + 1 then _ else tbG l lim n i) = _
      rw [if_neg c]; exact ih i (by omega)
theorem b64_1 : ∀ a : Fin 64, ∀ b : Fin 64, (nI a.val &&& (nI b.val ^^^ (-1)) = 0) ↔ a.val &&& b.val = a.val := by decide +kernel
theorem b64_2 : ∀ a : Fin 64, ∀ b : Fin 64, nI b.val &&& (nI a.val ^^^ (-1)) = nI (b.val &&& (63 ^^^ a.val)) := by decide +kernel
theorem b64_3 : ∀ z : Fin 64, 0 < z.val → nI z.val &&& (nI z.val - 1) = nI (z.val &&& (z.val - 1)) ∧ (z.val &&& (z.val - 1)) < z.val := by decide +kernel
theorem b64_4 : ∀ z : Fin 64, 0 < z.val → ∃ c : Fin 6, V_305 h00 (nI z.val) = nI c.val ∧ z.val.testBit c.val = true ∧ ∀ x : Fin 6, (z.val &&& (z.val - 1)).testBit x.val = (z.val.testBit x.val && !(x.val == c.val)) := by decide +kernel
theorem b64_5 : ∀ p : Fin 64, ∀ z : Fin 64, 0 < p.val → (nI p.val - 1) &&& nI z.val = nI ((p.val - 1) &&& z.val) := by decide +kernel
theorem b64_7 : ∀ a : Fin 64, ∀ z : Fin 64, 0 < a.val → a.val &&& z.val = a.val → (z.val &&& (63 ^^^ a.val)) < z.val := by decide +kernel
theorem b64_8 : ∀ n : Fin 7, (1 : Int32) <<< (nI n.val &&& 31) = nI (2 ^ n.val) ∧ 2 ^ n.val ≤ 64 := by decide +kernel
theorem ld_low {l : Nat → Nat} {z c : Nat} (hc : c < 6) (h1 : z.testBit c = true) (h : ∀ x : Fin 6, (z &&& (z - 1)).testBit x.val = (z.testBit x.val && !(x.val == c))) : ld l z = ld l (z &&& (z - 1)) + l c := by
  unfold ld
  have t0 := h 0; have t1 := h 1; have t2 := h 2; have t3 := h 3; have t4 := h 4; have t5 := h 5
  simp only [Fin.isValue, Fin.val_zero, Fin.val_one] at t0 t1
  rw [show ((2 : Fin 6).val) = 2 from rfl] at t2
  rw [show ((3 : Fin 6).val) = 3 from rfl] at t3
  rw [show ((4 : Fin 6).val) = 4 from rfl] at t4
  rw [show ((5 : Fin 6).val) = 5 from rfl] at t5
  rw [t0, t1, t2, t3, t4, t5]
  have : c = 0 ∨ c = 1 ∨ c = 2 ∨ c = 3 ∨ c = 4 ∨ c = 5 := by omega
  rcases this with rfl | rfl | rfl | rfl | rfl | rfl <;> simp [h1] <;> omega
def cvO (x : Option Nat) : Int32 := match x with
  | none => -1
  | some v => nI v
theorem ld_bd {l : Nat → Nat} (hl : ∀ x, l x ≤ 400) (z : Nat) : ld l z ≤ 2400 := by
  unfold ld
  have := hl 0; have := hl 1; have := hl 2; have := hl 3; have := hl 4; have := hl 5
  repeat' split
  all_goals omega
/-- values are at most the set -/
def BdO (f : Nat → Option Nat) (n : Nat) : Prop := ∀ i, i < n → ∀ v, f i = some v → v ≤ i
theorem cd_bd {l : Nat → Nat} {lim z go : Nat} {f : Nat → Option Nat} (hz : z < 64) (hg : 0 < go) (hgz : go ≤ z) (B : BdO f z) {v : Nat} (h : cd l lim f z go = some v) : v ≤ z := by
  unfold cd at h
  split at h
  · rename_i c
    have lt := b64_7 ⟨go, by omega⟩ ⟨z, hz⟩ hg c.1
    dsimp only at lt
    split at h
    · cases h
    · rename_i w hw
      cases h
      have := B _ lt w hw
      omega
  · cases h
theorem fb_bd {c : Nat → Option Nat} {N : Nat} : ∀ k, (∀ go, 1 ≤ go → go ≤ k → ∀ v, c go = some v → v ≤ N) → ∀ v, fb c k = some v → v ≤ N := by
  intro k
  induction k with
  | zero => intro _ v h; cases h
  | succ k ih =>
    intro hc v h
    have i := ih (fun go a b => hc go a (by omega))
    have hk := hc (k + 1) (by omega) (by omega)
    show v ≤ N
    unfold fb mnO at h
    split at h
    · exact i v h
    · rename_i b hb
      split at h
      · cases h; exact hk _ hb
      · rename_i a ha
        split at h
        · cases h; exact hk _ hb
        · cases h; exact i _ ha
theorem mG_bd {l : Nat → Nat} {lim : Nat} : ∀ z, z < 64 → ∀ v, mG l lim z = some v → v ≤ z := by
  intro z
  induction z using Nat.strongRecOn with
  | _ z ih =>
    intro hz v h
    cases z with
    | zero => cases h; omega
    | succ n =>
      have e : mG l lim (n + 1) = fb (cd l lim (tbG l lim n) (n + 1)) (n + 1) := by
        show (if n + 1 = n + 1 then _ else _) = _
        rw [if_pos rfl]
      rw [e] at h
      refine fb_bd (n + 1) (fun go g1 g2 w hw => cd_bd hz (by omega) g2 (fun i hi u hu => ?_) hw) v h
      rw [tbG_le n i (by omega)] at hu
      exact ih i hi (by omega) u hu
/-- the class's search for the fewest goes of a set -/
theorem V15_e {h : mxH} {l : Nat → Nat} {lim z : Nat} {f : Nat → Option Nat} (hz : z < 64) (hl : ∀ x, l x ≤ 400) (hlim : lim ≤ 99) (B : BdO f z) (e5 : ∀ i, i < z → mx_i h 115 i = cvO (f i)) (e6 : ∀ i, i ≤ z → mx_i h 116 i = nI (ld l i)) : V_15 h (nI z) (nI lim) = cvO (fb (cd l lim f z) z) := by
  unfold V_15 fz
  rw [nI_clamp (by omega), show z + 1 - 1 = z by omega]
  have L : ∀ k, k ≤ z → fo (fun j s => F_15_4 h (nI z) (nI lim) (1 + j) s) k (-1) = cvO (fb (cd l lim f z) k) := by
    intro k
    induction k with
    | zero => intro _; rfl
    | succ k ih =>
      intro hk
      show F_15_4 h (nI z) (nI lim) (1 + k) (fo (fun j s => F_15_4 h (nI z) (nI lim) (1 + j) s) k (-1)) = cvO (mnO (fb (cd l lim f z) k) (cd l lim f z (k + 1)))
      rw [ih (by omega)]
      have bd := fb_bd (c := cd l lim f z) (N := z) k (fun go g1 g2 v hv => cd_bd hz (by omega) (by omega) B hv)
      generalize fb (cd l lim f z) k = s at bd
      unfold F_15_4
      rw [show 1 + k = k + 1 by omega, nI_clamp (by omega)]
      have s1 := b64_1 ⟨k + 1, by omega⟩ ⟨z, hz⟩
      have s2 := b64_2 ⟨k + 1, by omega⟩ ⟨z, hz⟩
      dsimp only at s1 s2
      unfold cd
      by_cases c1 : (k + 1) &&& z = k + 1
      · rw [if_pos (s1.mpr c1), s2, e6 (k + 1) (by omega)]
        have lb := ld_bd hl (k + 1)
        by_cases c2 : ld l (k + 1) ≤ lim
        · rw [if_neg (show ¬ nI lim < nI (ld l (k + 1)) from fun q => absurd ((nI_ltI (by omega) (by omega)).mp q) (by omega)), if_pos (show (k + 1) &&& z = k + 1 ∧ ld l (k + 1) ≤ lim from ⟨c1, c2⟩)]
          have lt := b64_7 ⟨k + 1, by omega⟩ ⟨z, hz⟩ (by show 0 < k + 1; omega) c1
          dsimp only at lt
          rw [nI_clamp (by omega), e5 _ lt]
          match hf : f (z &&& (63 ^^^ (k + 1))) with
          | none => rw [if_pos (show cvO none = -1 from rfl)]; rfl
          | some v =>
            have vb := B _ lt v hf
            rw [if_neg (show ¬ cvO (some v) = -1 from nI_ne1 (by omega))]
            match s with
            | none => rw [if_pos (show cvO none = -1 from rfl)]; show nI v + 1 = nI (v + 1); rw [nI_1]
            | some a =>
              have ab := bd a rfl
              rw [if_neg (show ¬ cvO (some a) = -1 from nI_ne1 (by omega))]
              show (if nI v + 1 < nI a then nI v + 1 else nI a) = cvO (if v + 1 < a then some (v + 1) else some a)
              rw [nI_1]
              by_cases q : v + 1 < a
              · rw [if_pos q, if_pos (nI_lt q (by omega))]; rfl
              · rw [if_neg q, if_neg (fun y => q ((nI_ltI (by omega) (by omega)).mp y))]; rfl
        · rw [if_pos (show nI lim < nI (ld l (k + 1)) from nI_lt (by omega) (by omega)), if_neg (show ¬ ((k + 1) &&& z = k + 1 ∧ ld l (k + 1) ≤ lim) from fun q => c2 q.2)]; rfl
      · rw [if_neg (fun q => c1 (s1.mp q)), if_neg (show ¬ ((k + 1) &&& z = k + 1 ∧ ld l (k + 1) ≤ lim) from fun q => c1 q.1)]; rfl
  exact L z (Nat.le_refl _)
/-- loads and limit of a row -/
def lR (r : Nat → Int32) (np x : Nat) : Nat := if x < np then (V_205 r (nI x)).toNatClampNeg else 0
def limR (r : Nat → Int32) : Nat := (r 6).toNatClampNeg
theorem lR_e {v : Nat → Nat → Int32} {r : Nat → Int32} {np ns nl x : Nat} (C : CpN v r np ns nl) : lR r np x ≤ 400 ∧ (x < np → V_205 r (nI x) = nI (lR r np x)) := by
  obtain ⟨m, hm, e⟩ := load_b C (nI x)
  unfold lR
  by_cases c : x < np
  · rw [if_pos c, e, nI_clamp (by omega)]
    exact ⟨hm, fun _ => rfl⟩
  · rw [if_neg c]
    exact ⟨by omega, fun q => absurd q c⟩
theorem limR_e {v : Nat → Nat → Int32} {r : Nat → Int32} {np ns nl : Nat} (C : CpN v r np ns nl) : limR r ≤ 99 ∧ r 6 = nI (limR r) := by
  have h := C.2.1.2.2.2.2.2.2
  obtain ⟨m, hm, e⟩ := isR_N (B := 99) (by decide) (x := r 6) ⟨Int32.le_trans (by decide) h.1, h.2⟩
  unfold limR
  rw [e, nI_clamp (by omega)]
  exact ⟨hm, rfl⟩
theorem H14 {d a np ns nl : Nat} {h0 : mxH} {Q : mxO → mxH → Prop} {r : Nat → Int32} (hVa : (mxT a).1 = 9) (C0 : CpN (vw h0 a) r np ns nl) (fin : ∀ h1, mxU (fun c => c = 115 ∨ c = 116) h0 h1 → Q (.inl (some (.int (cvO (mG (lR r np) (limR r) (2 ^ np - 1)))))) h1) : ∀ (m z : Nat) (h : mxH), m + z = 2 ^ np - 1 → mxG h → mxU (fun c => c = 115 ∨ c = 116) h0 h → (∀ i, i ≤ z → mx_i h 115 i = cvO (mG (lR r np) (limR r) i)) → (∀ i, i ≤ z → mx_i h 116 i = nI (ld (lR r np) i)) → H_14_20 (d + 1) h a (nI (2 ^ np - 1)) (nI (z + 1)) Q := by
  have ga := va_gt hVa
  have n6 := C_np6 C0
  have p64 := (b64_8 ⟨np, by omega⟩).2
  dsimp only at p64
  have pp : 0 < 2 ^ np := Nat.pow_pos (by decide)
  intro m
  induction m with
  | zero =>
    intro z h hm G U e5 e6
    have hz : z = 2 ^ np - 1 := by omega
    refine tr_14_20 G hVa ⟨fun _ => ⟨vp_in_nI (by omega) (by decide), ?_⟩, fun c => absurd (nI_lt (by omega) (by omega)) c⟩
    rw [nI_clamp (by omega), ← hz, e5 z (Nat.le_refl _), hz]
    exact fin h U
  | succ m ih =>
    intro z h hm G U e5 e6
    have hz : z + 1 < 64 := by omega
    have C : CpN (vw h a) r np ns nl := CpN_U U (fun k hk q => by omega) C0
    have s3 := b64_3 ⟨z + 1, hz⟩ (by show 0 < z + 1; omega)
    dsimp only at s3
    obtain ⟨c, c1, c2, c3⟩ := b64_4 ⟨z + 1, hz⟩ (by show 0 < z + 1; omega)
    dsimp only at c1 c2 c3
    have cnp : c.val < np := by
      rcases Nat.lt_or_ge c.val np with q | q
      · exact q
      · have : (z + 1).testBit c.val = false := Nat.testBit_lt_two_pow (Nat.lt_of_lt_of_le (show z + 1 < 2 ^ np by omega) (Nat.pow_le_pow_right (by decide) q))
        rw [this] at c2
        exact absurd c2 (by decide)
    have v305 : V_305 h (nI (z + 1)) = nI c.val := c1
    refine tr_14_20 G hVa ⟨fun q => absurd ((nI_ltI (by omega) (by omega)).mp q) (by omega), fun _ => ?_⟩
    rw [s3.1, v305, cm_load C, (lR_e C).2 cnp, nI_clamp (by omega), nI_clamp (by omega), e6 _ (by omega), nI_add, ← ld_low c.isLt c2 c3]
    refine ⟨vp_in_nI (by omega) (by decide), C_cs C, vp_in_nI (by omega) (by decide), fun h6 e6' => ⟨⟨z + 1, by omega, rfl⟩, fun h10 e10 => ?_⟩⟩
    have lim := limR_e C
    have l5 : mx_i h6 a 5 = nI (limR r) := by
      rw [e6', wi_ne (by omega), C_limit C]; exact lim.2
    have v15 : V_15 h6 (nI (z + 1)) (nI (limR r)) = cvO (mG (lR r np) (limR r) (z + 1)) := by
      have := V15_e (h := h6) (l := lR r np) (lim := limR r) (z := z + 1) (f := tbG (lR r np) (limR r) z) hz (fun x => (lR_e C).1) lim.1 (fun i hi v hv => by
        rw [tbG_le z i (by omega)] at hv
        exact mG_bd i (by omega) v hv) (fun i hi => by
        rw [e6', wi_ne (by decide), e5 i (by omega), tbG_le z i (by omega)]) (fun i hi => by
        rw [e6', wi_row]
        by_cases q : i = z + 1
        · rw [if_pos q, q]
        · rw [if_neg q, e6 i (by omega)])
      rw [this]
      show _ = cvO (if z + 1 = z + 1 then _ else _)
      rw [if_pos rfl]
    rw [l5, v15] at e10
    have U10 : mxU (fun c => c = 115 ∨ c = 116) h h10 := by
      rw [e10, e6']
      exact mxU_tr (mxU_wi (.inr rfl)) (mxU_wi (.inl rfl))
    rw [nI_1]
    refine ih (z + 1) h10 (by omega) (mxU_G U10 G) (mxU_tr U U10) (fun i hi => ?_) (fun i hi => ?_)
    · rw [e10, wi_row]
      by_cases q : i = z + 1
      · rw [if_pos q, q]
      · rw [if_neg q, e6', wi_ne (by decide), e5 i (by omega)]
    · rw [e10, wi_ne (by decide), e6', wi_row]
      by_cases q : i = z + 1
      · rw [if_pos q, q]
      · rw [if_neg q, e6 i (by omega)]
def p14 (a : Nat) (h : mxH) (x : Int32) (h1 : mxH) : Prop := mxU (fun c => c = 115 ∨ c = 116) h h1 ∧ ∀ r np ns nl, CpN (vw h a) r np ns nl → x = cvO (mG (lR r np) (limR r) (2 ^ np - 1))
theorem sp_14 {d : Nat} {h : mxH} {Q : mxO → mxH → Prop} {a : Nat} (G : mxG h) (hVa : (mxT a).1 = 9) (ok : ∃ (q : (Nat → Int32) × Nat × Nat × Nat), CpN (vw h a) q.1 q.2.1 q.2.2.1 q.2.2.2) (k : ∀ x h1, p14 a h x h1 → Q (.inl (some (.int x))) h1) : mx_wp (d + 1) 14 0 (mx_fr 14 [.ref 109, .ref a]) [] h Q := by
  have ga := va_gt hVa
  refine all_mut (F := mxU (fun c => c = 115 ∨ c = 116) h) (R := fun q x h1 => x = cvO (mG (lR q.1 q.2.1) (limR q.1) (2 ^ q.2.1 - 1))) ok (fun q C => ?_) (fun x h1 f r => k x h1 ⟨f, fun r' np ns nl a1 => by
    have z := r (r', np, ns, nl) a1
    dsimp only at z
    exact z⟩)
  obtain ⟨r, np, ns, nl⟩ := q
  have C : CpN (vw h a) r np ns nl := C
  dsimp only
  have n6 := C_np6 C
  have s8 := (b64_8 ⟨np, by omega⟩)
  dsimp only at s8
  have pp : 0 < 2 ^ np := Nat.pow_pos (by decide)
  refine tr_14_0 G hVa (fun h1 e1 h4 e4 => ?_)
  rw [C_p C, s8.1, show (1 : Int32) = nI 1 from rfl, pk_sub (by omega)]
  have U4 : mxU (fun c => c = 115 ∨ c = 116) h h4 := by rw [e4, e1]; exact mxU_tr (mxU_wi (.inl rfl)) (mxU_wi (.inr rfl))
  refine H14 (h0 := h) (np := np) (ns := ns) (nl := nl) hVa C (fun h1 U => ⟨_, rfl, U, rfl⟩) (2 ^ np - 1) 0 h4 (by omega) (mxU_G U4 G) U4 (fun i hi => ?_) (fun i hi => ?_)
  · obtain rfl : i = 0 := by omega
    rw [e4, wi_ne (by decide), e1, wi_at rfl rfl]; rfl
  · obtain rfl : i = 0 := by omega
    rw [e4, wi_at rfl rfl]; rfl
