/-! SPECS by hand, 22: an hour of one person: the class -/
theorem askC_lt {W : Option (List LL)} {r : Nat → Int32} {x j : Nat} (hj : j ≠ 2) : askC W r x j = ask W r x j := by
  cases W with
  | none => rfl
  | some Ls => unfold askC; exact if_neg hj
section
variable {h h1 : mxH} {a b : Nat} {r : Nat → Int32} {np ns nl x : Nat} {W : Option (List LL)}
theorem vw_wi {k j : Nat} {w : Int32} : vw (mx_wi h (a + k) j w) a = vs (vw h a) k j w := by
  funext k' j'
  show mx_i (mx_wi h (a + k) j w) (a + k') j' = if k' = k ∧ j' = j then w else mx_i h (a + k') j'
  rw [wi_i]
  by_cases c : k' = k ∧ j' = j
  · rw [if_pos c, if_pos ⟨by omega, c.2⟩]
  · rw [if_neg c, if_neg (fun q => c ⟨by omega, q.2⟩)]
theorem CpN_U {P : Nat → Prop} (u : mxU P h h1) (hp : ∀ k, k ≤ 15 → ¬ P (a + k)) (C : CpN (vw h a) r np ns nl) : CpN (vw h1 a) r np ns nl := CpN_congr (fun k j hk => by
  show mx_i h1 (a + k) j = mx_i h (a + k) j
  rw [mxU_i u (hp k (by unfold inV at hk; omega))]) (fun _ _ _ _ => rfl) C
theorem LC_U {P : Nat → Prop} (u : mxU P h h1) (hp : ∀ k, k ≤ 4 → ¬ P (b + k)) (L : LC (lw h b) W) : LC (lw h1 b) W := LC_congr (fun k j hk => by
  show mx_i h1 (b + k) j = mx_i h (b + k) j
  rw [mxU_i u (hp k (by unfold inL at hk; omega))]) L
/-- whether one may step over the bridge -/
theorem cm_step (C : CpN (vw h a) r np ns nl) {p g l : Int32} (hp : isR p 0 11) (ne : ¬ p = g) (hg : isR g 0 11) : V_115 h a p (stp1 p g) l = V_239 r l p (stp1 p g) := by
  unfold V_115 V_239
  rw [C_limit C]
  obtain ⟨k, hk, rfl⟩ := isR_N (B := 11) (by decide) hp
  obtain ⟨m, hm, rfl⟩ := isR_N (B := 11) (by decide) hg
  have all : ∀ k, k < 12 → ∀ m, m < 12 → ¬ k = m → (((if stp1 (nI k) (nI m) < nI k then stp1 (nI k) (nI m) else nI k) = 5) ↔ (nI k + stp1 (nI k) (nI m) = 11)) := by decide +kernel
  have := all k (by omega) m (by omega) (fun q => ne (by rw [q]))
  simp only [this]
  by_cases c : nI k + stp1 (nI k) (nI m) = 11
  · rw [if_pos c, if_pos c]
  · rw [if_neg c, if_neg c]
    split <;> rfl
end
abbrev A22 : Type := Option (List LL) × (Nat → Int32) × Nat × Nat × Nat × Nat
def PH (h : mxH) (a b : Nat) (i1 : Int32) (q : A22) : Prop := CpN (vw h a) q.2.1 q.2.2.1 q.2.2.2.1 q.2.2.2.2.1 ∧ LC (lw h b) q.1 ∧ q.2.2.2.2.2 < q.2.2.1 ∧ i1 = nI q.2.2.2.2.2
def okH (h : mxH) (a b : Nat) (i1 : Int32) : Prop := ∃ q, PH h a b i1 q
def p111 (a : Nat) (i1 : Int32) (b : Nat) (h h1 : mxH) : Prop := mxU (fun c => c = a + 2 ∨ c = a + 4 ∨ c = b + 5 ∨ c = b + 6) h h1 ∧ ∀ W r np ns nl x, CpN (vw h a) r np ns nl → LC (lw h b) W → x < np → i1 = nI x → CpN (vw h1 a) (wlkR W r x) np ns nl
theorem sp_111 {d : Nat} {h : mxH} {Q : mxO → mxH → Prop} {a : Nat} {i1 : Int32} {b : Nat} (G : mxG h) (hVa : (mxT a).1 = 9) (hVb : (mxT b).1 = 3) (ok : okH h a b i1) (k : ∀ h1, p111 a i1 b h h1 → Q (.inl none) h1) : mx_wp (d + 3) 111 0 (mx_fr 111 [.ref a, .int i1, .ref b]) [] h Q := by
  refine all_mv (F := mxU (fun c => c = a + 2 ∨ c = a + 4 ∨ c = b + 5 ∨ c = b + 6) h) (R := fun q h1 => CpN (vw h1 a) (wlkR q.1 q.2.1 q.2.2.2.2.2) q.2.2.1 q.2.2.2.1 q.2.2.2.2.1) ok (fun q pq => ?_) (fun h1 f r => k h1 ⟨f, fun W r' np ns nl x a1 a2 a3 a4 => r (W, r', np, ns, nl, x) ⟨a1, a2, a3, a4⟩⟩)
  obtain ⟨W, r, np, ns, nl, x⟩ := q
  obtain ⟨C, L, hx, ex⟩ := pq
  have C : CpN (vw h a) r np ns nl := C
  have L : LC (lw h b) W := L
  have hx : x < np := hx
  have ex : i1 = nI x := ex
  show mx_wp (d + 3) 111 0 (mx_fr 111 [.ref a, .int i1, .ref b]) [] h (fun o h1 => o = .inl none ∧ mxU (fun c => c = a + 2 ∨ c = a + 4 ∨ c = b + 5 ∨ c = b + 6) h h1 ∧ CpN (vw h1 a) (wlkR W r x) np ns nl)
  subst ex
  have h6 := C_np6 C
  have dj := vl_ne hVa hVb
  have nc : (nI x).toNatClampNeg = x := nI_clamp (by omega)
  have v6 : vp_in (nI x) 6 := vp_in_nI (by omega) (by decide)
  have e4 : mx_i h (a + 4) (nI x).toNatClampNeg = r (33 + 6 * x + 2) := by rw [nc]; exact Cu4 C hx
  have e5 : mx_i h (a + 5) (nI x).toNatClampNeg = r (33 + 6 * x + 3) := by rw [nc]; exact Cu5 C hx
  refine tr_111_0 G hVa hVb ⟨v6, ?_⟩
  rw [e4, e5]
  refine ⟨fun c => ⟨⟨(W, r, np, ns, nl, x, 1), C, L, hx, rfl, (by decide : 1 < 3), rfl⟩, fun x13 h14 u14 h17 e17 => ?_⟩, fun c => ⟨⟨fun _ => ⟨v6, fun _ => trivial, fun _ => ⟨C_cs C, trivial⟩⟩, fun _ => trivial⟩, ?_, ?_⟩⟩
  · have ex := u14.2 W r np ns nl x 1 C L hx rfl (by decide) rfl
    have C14 : CpN (vw h14 a) r np ns nl := CpN_U u14.1 (fun k hk q => by omega) C
    unfold W_46 at e17
    rw [nc, Cu2 C14 hx, mn_c, ex] at e17
    have ea := askC_lt (W := W) (r := r) (x := x) (j := 1) (by decide)
    rw [ea] at e17
    refine ⟨rfl, mxU_tr (mxU_mono (fun c hc => by omega) u14.1) (by rw [e17]; exact mxU_wi (.inl rfl)), ?_⟩
    have : wlkR W r x = rs r (33 + 6 * x + 0) (mn 9999 (r (33 + 6 * x + 0) + ask W r x 1)) := by unfold wlkR; rw [if_pos c]
    rw [this, e17, vw_wi]
    exact CpN_uf C14 hx (.inl ⟨rfl, earn_R C14 (LC_b L) hx⟩)
  · rw [cm_bowed C hx]
    intro hb v5 ev5
    refine ⟨C_cs C, ?_⟩
    have hp := Cu_l C hx
    have hg := Cu_g C hx
    have ev5 : v5 = stp1 (r (33 + 6 * x + 2)) (r (33 + 6 * x + 3)) := ev5
    rw [ev5, cm_step C hp c hg, cm_load C]
    refine ⟨fun q => ⟨rfl, mxU_rfl, ?_⟩, fun q h8 e8 => ⟨rfl, by rw [e8]; exact mxU_wi (.inr (.inl rfl)), ?_⟩⟩
    · have : wlkR W r x = r := by unfold wlkR; rw [if_neg c, if_neg (fun y => y.2 q)]
      rw [this]; exact C
    · have : wlkR W r x = rs r (33 + 6 * x + 2) (stp1 (r (33 + 6 * x + 2)) (r (33 + 6 * x + 3))) := by unfold wlkR; rw [if_neg c, if_pos ⟨hb, q⟩]
      rw [this, e8, nc, vw_wi]
      exact CpN_uf C hx (.inr (.inl ⟨rfl, stp1_R hp hg c⟩))
  · rw [cm_bowed C hx]
    intro hb
    refine ⟨rfl, mxU_rfl, ?_⟩
    have : wlkR W r x = r := by unfold wlkR; rw [if_neg c, if_neg (fun y => hb y.1)]
    rw [this]; exact C
def p112 (a : Nat) (i1 : Int32) (b : Nat) (i3 : Int32) (h : mxH) (y : Int32) (h1 : mxH) : Prop := mxU (fun c => c = a ∨ c = a + 6 ∨ c = b + 5 ∨ c = b + 6) h h1 ∧ ∀ W r np ns nl x, CpN (vw h a) r np ns nl → LC (lw h b) W → x < np → i1 = nI x → (i3 = 0 → y = 0 ∧ CpN (vw h1 a) (tirR W r x) np ns nl) ∧ (¬ i3 = 0 → y = (if isHt W r x then 1 else 0) ∧ CpN (vw h1 a) (drR W r x) np ns nl)
theorem sp_112 {d : Nat} {h : mxH} {Q : mxO → mxH → Prop} {a : Nat} {i1 : Int32} {b : Nat} {i3 : Int32} (G : mxG h) (hVa : (mxT a).1 = 9) (hVb : (mxT b).1 = 3) (ok : okH h a b i1) (k : ∀ y h1, p112 a i1 b i3 h y h1 → Q (.inl (some (.int y))) h1) : mx_wp (d + 3) 112 0 (mx_fr 112 [.ref a, .int i1, .ref b, .int i3]) [] h Q := by
  refine all_mut (F := mxU (fun c => c = a ∨ c = a + 6 ∨ c = b + 5 ∨ c = b + 6) h) (R := fun q y h1 => (i3 = 0 → y = 0 ∧ CpN (vw h1 a) (tirR q.1 q.2.1 q.2.2.2.2.2) q.2.2.1 q.2.2.2.1 q.2.2.2.2.1) ∧ (¬ i3 = 0 → y = (if isHt q.1 q.2.1 q.2.2.2.2.2 then 1 else 0) ∧ CpN (vw h1 a) (drR q.1 q.2.1 q.2.2.2.2.2) q.2.2.1 q.2.2.2.1 q.2.2.2.2.1)) ok (fun q pq => ?_) (fun y h1 f r => k y h1 ⟨f, fun W r' np ns nl x a1 a2 a3 a4 => r (W, r', np, ns, nl, x) ⟨a1, a2, a3, a4⟩⟩)
  obtain ⟨W, r, np, ns, nl, x⟩ := q
  obtain ⟨C, L, hx, ex⟩ := pq
  have C : CpN (vw h a) r np ns nl := C
  have L : LC (lw h b) W := L
  have hx : x < np := hx
  have ex : i1 = nI x := ex
  show mx_wp (d + 3) 112 0 (mx_fr 112 [.ref a, .int i1, .ref b, .int i3]) [] h (fun o h1 => ∃ y, o = .inl (some (.int y)) ∧ mxU (fun c => c = a ∨ c = a + 6 ∨ c = b + 5 ∨ c = b + 6) h h1 ∧ ((i3 = 0 → y = 0 ∧ CpN (vw h1 a) (tirR W r x) np ns nl) ∧ (¬ i3 = 0 → y = (if isHt W r x then 1 else 0) ∧ CpN (vw h1 a) (drR W r x) np ns nl)))
  subst ex
  have h6 := C_np6 C
  have dj := vl_ne hVa hVb
  have nc : (nI x).toNatClampNeg = x := nI_clamp (by omega)
  have v6 : vp_in (nI x) 6 := vp_in_nI (by omega) (by decide)
  refine tr_112_0 G hVa hVb ⟨⟨(W, r, np, ns, nl, x, 0), C, L, hx, rfl, (by decide : 0 < 3), rfl⟩, fun x2 h3 u3 => ⟨v6, fun h7 e7 => ?_⟩⟩
  have ex := u3.2 W r np ns nl x 0 C L hx rfl (by decide) rfl
  have C3 : CpN (vw h3 a) r np ns nl := CpN_U u3.1 (fun k hk q => by omega) C
  have ea := askC_lt (W := W) (r := r) (x := x) (j := 0) (by decide)
  rw [nc, Cu6 C3 hx, mn_c, ex, ea] at e7
  have C7 : CpN (vw h7 a) (tirR W r x) np ns nl := by
    rw [e7, vw_wi]
    exact CpN_uf C3 hx (.inr (.inr ⟨rfl, tire_R C3 (LC_b L) hx⟩))
  have U7 : mxU (fun c => c = a ∨ c = a + 6 ∨ c = b + 5 ∨ c = b + 6) h h7 := mxU_tr (mxU_mono (fun c hc => by omega) u3.1) (by rw [e7]; exact mxU_wi (.inr (.inl rfl)))
  refine ⟨fun c => ⟨_, rfl, U7, fun _ => ⟨rfl, C7⟩, fun q => absurd c q⟩, fun c h11 e11 => ?_⟩
  have s7 : mx_i h7 a 7 = r 8 := by
    rw [C_seed C7]; unfold tirR; exact rs_ne (by omega)
  unfold W_113 at e11
  rw [s7] at e11
  have C11 : CpN (vw h11 a) (drR W r x) np ns nl := by
    rw [e11]
    have := vw_wi (h := h7) (a := a) (k := 0) (j := 7) (w := (1103515245 * r 8) + 12345)
    rw [show a + 0 = a from rfl] at this
    rw [this]
    exact CpN_sd C7 _
  have U11 : mxU (fun c => c = a ∨ c = a + 6 ∨ c = b + 5 ∨ c = b + 6) h h11 := mxU_tr U7 (by rw [e11]; exact mxU_wi (.inl rfl))
  have L11 : LC (lw h11 b) W := LC_U U11 (fun k hk q => by omega) L
  refine ⟨⟨(W, drR W r x, np, ns, nl, x, 2), C11, L11, hx, rfl, (by decide : 2 < 3), rfl⟩, fun x16 h17 u17 v20 e20 => ?_⟩
  have ex2 := u17.2 W (drR W r x) np ns nl x 2 C11 L11 hx rfl (by decide) rfl
  refine ⟨_, rfl, mxU_tr U11 (mxU_mono (fun c hc => by omega) u17.1), fun q => absurd q c, fun _ => ⟨?_, CpN_U u17.1 (fun k hk q => by omega) C11⟩⟩
  rw [e20, ex2]
  unfold V_113
  rw [wi_at rfl rfl, s7]
  rfl
/-! the end of an hour -/
section
variable {h h1 : mxH} {a : Nat} {r : Nat → Int32} {np ns nl x : Nat}
theorem cm_81 (C : CpN (vw h a) r np ns nl) : ∀ n, n ≤ ns → mxU (fun c => c = a + 10) h (fo (F_81_2 a) n h) ∧ CpN (vw (fo (F_81_2 a) n h) a) (fo grw n r) np ns nl := by
  intro n
  induction n with
  | zero => intro _; exact ⟨mxU_rfl, C⟩
  | succ n ih =>
    intro hn
    obtain ⟨U, Cn⟩ := ih (by omega)
    show mxU _ h (F_81_2 a n (fo (F_81_2 a) n h)) ∧ CpN (vw (F_81_2 a n (fo (F_81_2 a) n h)) a) (grw n (fo grw n r)) np ns nl
    generalize fo (F_81_2 a) n h = s at U Cn ⊢
    generalize fo grw n r = t at Cn ⊢
    have h10 := C_ns10 Cn
    have nc : (nI n).toNatClampNeg = n := nI_clamp (by omega)
    unfold F_81_2 grw
    rw [nc, Cs11 Cn (by omega), Cs10 Cn (by omega), mn_c]
    have st := Cs_s Cn (z := n) (by omega)
    simp only [st_lt2 st]
    by_cases c : t (69 + 6 * n + 3) = 2
    · rw [if_pos c, if_neg (fun q => q c)]
      exact ⟨U, Cn⟩
    · rw [if_neg c, if_pos c]
      refine ⟨mxU_tr U (mxU_wi rfl), ?_⟩
      rw [vw_wi]
      exact CpN_wt Cn (by omega) (wt_R (Cs_w Cn (by omega)))
end
theorem H114 {d a np ns nl : Nat} {h0 : mxH} {Q : mxO → mxH → Prop} (hVa : (mxT a).1 = 9) {rf : Nat → Int32} (fin : ∀ h1, mxU (fun c => c = a + 6) h0 h1 → CpN (vw h1 a) rf np ns nl → Q (.inl none) h1) : ∀ (m i : Nat) (h : mxH) (r : Nat → Int32), m + i = np → mxG h → mxU (fun c => c = a + 6) h0 h → CpN (vw h a) r np ns nl → fz hlf i np r = rf → H_114_18 (d + 1) h a (nI i) Q := by
  intro m
  induction m with
  | zero =>
    intro i h r hm G U C hr
    have hi : i = np := by omega
    subst hi
    rw [fz_0] at hr
    subst hr
    refine tr_114_18 G hVa ⟨fun c => ?_, fun _ => fin h U C⟩
    rw [C_p C] at c
    exact absurd c Int32.lt_irrefl
  | succ m ih =>
    intro i h r hm G U C hr
    have h6 := C_np6 C
    have hx : i < np := by omega
    have nc : (nI i).toNatClampNeg = i := nI_clamp (by omega)
    refine tr_114_18 G hVa ⟨fun _ => ⟨vp_in_nI (by omega) (by decide), fun h3 e3 => ?_⟩, fun c => absurd (by rw [C_p C]; exact nI_lt hx (by omega)) c⟩
    rw [nc, Cu6 C hx] at e3
    rw [nI_1]
    have C3 : CpN (vw h3 a) (hlf i r) np ns nl := by
      rw [e3, vw_wi]
      exact CpN_uf C hx (.inr (.inr ⟨rfl, halfR (Cu_t C hx)⟩))
    have U3 : mxU (fun c => c = a + 6) h h3 := by rw [e3]; exact mxU_wi rfl
    refine ih (i + 1) h3 (hlf i r) (by omega) (mxU_G U3 G) (mxU_tr U U3) C3 ?_
    rw [← hr]
    unfold fz
    rw [show np - i = (np - (i + 1)) + 1 by omega]
    clear hr ih
    have : ∀ n s, fo (fun j s => hlf (i + j) s) (n + 1) s = fo (fun j s => hlf (i + 1 + j) s) n (hlf i s) := by
      intro n
      induction n with
      | zero => intro s; rfl
      | succ n ih2 =>
        intro s
        show hlf (i + (n + 1)) (fo (fun j s => hlf (i + j) s) (n + 1) s) = hlf (i + 1 + n) (fo (fun j s => hlf (i + 1 + j) s) n (hlf i s))
        rw [ih2, show i + (n + 1) = i + 1 + n by omega]
    exact (this _ _).symm
def p114 (a : Nat) (h h1 : mxH) : Prop := mxU (fun c => c = a ∨ c = a + 6 ∨ c = a + 10) h h1 ∧ ∀ r np ns nl, CpN (vw h a) r np ns nl → CpN (vw h1 a) (endR np ns r) np ns nl
theorem sp_114 {d : Nat} {h : mxH} {Q : mxO → mxH → Prop} {a : Nat} (G : mxG h) (hVa : (mxT a).1 = 9) (ok : ∃ (q : (Nat → Int32) × Nat × Nat × Nat), CpN (vw h a) q.1 q.2.1 q.2.2.1 q.2.2.2) (k : ∀ h1, p114 a h h1 → Q (.inl none) h1) : mx_wp (d + 1) 114 0 (mx_fr 114 [.ref a]) [] h Q := by
  refine all_mv (F := mxU (fun c => c = a ∨ c = a + 6 ∨ c = a + 10) h) (R := fun q h1 => CpN (vw h1 a) (endR q.2.1 q.2.2.1 q.1) q.2.1 q.2.2.1 q.2.2.2) ok (fun q C => ?_) (fun h1 f r => k h1 ⟨f, fun r' np ns nl a1 => r (r', np, ns, nl) a1⟩)
  obtain ⟨r, np, ns, nl⟩ := q
  have C : CpN (vw h a) r np ns nl := C
  show mx_wp (d + 1) 114 0 (mx_fr 114 [.ref a]) [] h (fun o h1 => o = .inl none ∧ mxU (fun c => c = a ∨ c = a + 6 ∨ c = a + 10) h h1 ∧ CpN (vw h1 a) (endR np ns r) np ns nl)
  have hh := C.2.1.2.2.2.2.2.1
  refine tr_114_0 G hVa (fun h1 e1 => ?_)
  rw [C_hour C, mn_c] at e1
  have v1 := vw_wi (h := h) (a := a) (k := 0) (j := 6) (w := mn 9999 (r 5 + 1))
  rw [show a + 0 = a from rfl, ← e1] at v1
  have U1 : mxU (fun c => c = a ∨ c = a + 6 ∨ c = a + 10) h h1 := by rw [e1]; exact mxU_wi (.inl rfl)
  have i1 : mx_i h1 a 6 = mn 9999 (r 5 + 1) := by rw [e1]; exact wi_at rfl rfl
  rw [i1]
  by_cases c : r 5 = 9999
  · have m1 : mn 9999 (r 5 + 1) = 9999 := by rw [c]; decide
    rw [m1] at v1 ⊢
    refine ⟨fun q => absurd q (by decide), fun _ => ⟨rfl, U1, ?_⟩⟩
    have : endR np ns r = r := by unfold endR; rw [if_pos c]
    rw [this, v1]
    refine CpN_congr (fun k j hk => ?_) (fun _ _ _ _ => rfl) C
    unfold vs
    by_cases q : k = 0 ∧ j = 6
    · rw [if_pos q, q.1, q.2]
      have := C_hour C
      show _ = mx_i h (a + 0) 6
      rw [show a + 0 = a from rfl, this, c]
    · rw [if_neg q]
  · have m1 : mn 9999 (r 5 + 1) = r 5 + 1 := by
      unfold mn
      rw [if_neg]
      have := hh.2
      have := hh.1
      grind
    rw [m1] at v1 ⊢
    have C1 : CpN (vw h1 a) (rs r 5 (r 5 + 1)) np ns nl := by rw [v1]; exact CpN_hr C (hour_R hh c)
    refine ⟨fun q => ⟨C_cs C1, fun h6 e6 => ?_⟩, fun q => ⟨rfl, U1, ?_⟩⟩
    · have er : endR np ns r = dwR np ns (rs r 5 (r 5 + 1)) := by unfold endR; rw [if_neg c, if_pos q]
      obtain ⟨U6, C6⟩ := cm_81 C1 ns (Nat.le_refl _)
      unfold W_81 at e6
      rw [C_s C1, nI_clamp (by have := C_ns10 C; omega)] at e6
      rw [← e6] at U6 C6
      refine H114 (np := np) (ns := ns) (nl := nl) (rf := endR np ns r) (h0 := h6) hVa (fun h1 U C => ⟨rfl, mxU_tr (mxU_tr U1 (mxU_mono (fun c hc => by omega) U6)) (mxU_mono (fun c hc => by omega) U), C⟩) np 0 h6 _ rfl (mxU_G U6 (mxU_G U1 G)) mxU_rfl C6 ?_
      rw [er, fz_fo]; rfl
    · have : endR np ns r = rs r 5 (r 5 + 1) := by unfold endR; rw [if_neg c, if_neg q]
      rw [this]; exact C1
