/-! SHARE: leastBy -/
def Vw (w : Nat → Nat) (t : Nat → Int32) (k y : Nat) : Prop := ∃ v : Nat, v ≤ 2000000000 ∧ t y = nI v ∧ ∀ B, B < 2000000000 → (v ≤ B ↔ FM w k y.testBit (fun _ => B))
theorem V192_n {r : Nat → Int32} {a b : Nat} (ha : a < 2 ^ 31) (hb : b < 2 ^ 31) : V_192 r (nI a) (nI b) = nI (min a b) := by
  unfold V_192
  by_cases c : a < b
  · rw [Nat.min_eq_left (by omega)]
    first
      | rw [if_pos (nI_lt c hb)]
      | rw [if_neg (by rw [nI_lt_iff (by omega) (by omega)]; omega)]
  · rw [Nat.min_eq_right (by omega)]
    first
      | rw [if_neg (by rw [nI_lt_iff (by omega) (by omega)]; omega)]
      | by_cases e : a = b
        · rw [e]; split <;> rfl
        · rw [if_pos (nI_lt (by omega) ha)]
theorem V193_n {r : Nat → Int32} {a b : Nat} (ha : a < 2 ^ 31) (hb : b < 2 ^ 31) : V_193 r (nI a) (nI b) = nI (max a b) := by
  unfold V_193
  by_cases c : b < a
  · rw [if_pos (nI_lt c ha), Nat.max_eq_left (by omega)]
  · rw [if_neg (by rw [nI_lt_iff (by omega) (by omega)]; exact c), Nat.max_eq_right (by omega)]
section
variable {d : Nat} {Q : mxO → mxH → Prop} {h0 : mxH} {v : Nat → Nat → Int32} {r : Nat → Int32} {np ns nl all c : Nat}
theorem H267p (C : CpN v r np ns nl) (e0 : mx_i h0 382 = r) (ha : all < 1024) {k x : Nat} (hx : x < 1024) (old : ∀ y, y ≤ x → prt y x → Vw (wR r ns) (mx_i h0 388) k y) (kont : ∀ h', mxU (fun b => b = 389) h0 h' → (∀ y, y ≠ x → mx_i h' 389 y = mx_i h0 389 y) → Vw (wR r ns) (mx_i h' 389) (k + 1) x → H_267_23 (d + 2) h' (nI all) (nI c) (nI k) (nI x + (-1)) Q) : ∀ p, p ≤ x → prt p x → ∀ h, mxG h → mxU (fun b => b = 389) h0 h → (∀ y, y ≠ x → mx_i h 389 y = mx_i h0 389 y) → (∃ u : Nat, u ≤ 2000000000 ∧ mx_i h 389 x = nI u ∧ ∀ B, B < 2000000000 → (u ≤ B ↔ (FM (wR r ns) k x.testBit (fun _ => B) ∨ ∃ q, p < q ∧ prt q x ∧ wS (wR r ns) q.testBit ≤ B ∧ FM (wR r ns) k (x &&& (1023 ^^^ q)).testBit (fun _ => B)))) → H_267_42 (d + 2) h (nI all) (nI c) (nI k) (nI x) (nI p) Q := by
  intro p
  induction p using Nat.strongRecOn with
  | _ p ih =>
    intro hp pp h G U fr st
    obtain ⟨u, hu, eu, iu⟩ := st
    have er : mx_i h 382 = r := (mxU_i U (by decide)).trans e0
    have e388 : mx_i h 388 = mx_i h0 388 := mxU_i U (by decide)
    by_cases p0 : p = 0
    · subst p0
      refine tr_267_42 G ⟨fun q => absurd q (by decide), fun _ => kont h U fr ⟨u, hu, eu, fun B hB => ?_⟩⟩
      rw [iu B hB, FM_s hx]
    · have hp10 : p < 1024 := by omega
      have dl := dif_lt hx (by omega) pp
      have wt := wt_e C hp10
      have e5 : nI x &&& (nI p ^^^ (-1)) = nI (x &&& (1023 ^^^ p)) := nI_dif hx
      have sub : prt (x &&& (1023 ^^^ p)) x := by
        unfold prt
        rw [Nat.and_assoc, Nat.and_comm (1023 ^^^ p) x, ← Nat.and_assoc, Nat.and_self]
      obtain ⟨o, ho, eo, io⟩ := old _ (by omega) sub
      refine tr_267_42 G ⟨fun _ => ⟨vp_in_nI (by omega) (by decide), by rw [er]; exact C_rs C, by rw [e5]; exact vp_in_nI (by omega) (by decide), fun h5 e => ?_⟩, fun q => absurd (nI_lt (a := 0) (by omega) (by omega)) q⟩
      rw [er, wt.1, e5, nI_clamp (by omega), nI_clamp (by omega), eu, e388, eo, V193_n (by omega) (by omega), V192_n (by omega) (by omega)] at e
      have pn : (nI p - 1) &&& nI x = nI ((p - 1) &&& x) := by
        rw [show (1 : Int32) = nI 1 from rfl, pk_sub (by omega), nI_and]
      rw [pn]
      have le1 : (p - 1) &&& x ≤ p - 1 := Nat.and_le_left
      have np' : prt ((p - 1) &&& x) x := by unfold prt; rw [Nat.and_assoc, Nat.and_self]
      refine ih ((p - 1) &&& x) (by omega) (by omega) np' h5 (by rw [e]; exact mxG_wi G) (mxU_tr U (mxU_wi' e rfl)) (fun y hy => by rw [e, wi_nj hy]; exact fr y hy) ⟨min u (max (wS (wR r ns) p.testBit) o), by omega, by rw [e, wi_at rfl rfl], fun B hB => ?_⟩
      have h1 := iu B hB
      have h2 := io B hB
      have h3 : min u (max (wS (wR r ns) p.testBit) o) ≤ B ↔ (u ≤ B ∨ (wS (wR r ns) p.testBit ≤ B ∧ o ≤ B)) := by omega
      rw [h3, h1, h2]
      constructor
      · rintro ((a | ⟨q, q1, q2⟩) | ⟨a, b⟩)
        · exact .inl a
        · exact .inr ⟨q, by omega, q2⟩
        · exact .inr ⟨p, by omega, pp, a, b⟩
      · rintro (a | ⟨q, q1, q2, q3⟩)
        · exact .inl (.inl a)
        · by_cases c1 : p < q
          · exact .inl (.inr ⟨q, c1, q2, q3⟩)
          · by_cases c2 : q = p
            · rw [c2] at q3; exact .inr q3
            · exact absurd (sbm_le p x q (by omega) pp q2 (by omega)) (by omega)
theorem H267s (C : CpN v r np ns nl) (e0 : mx_i h0 382 = r) (ha : all < 1024) {k : Nat} (old : ∀ y, prt y all → Vw (wR r ns) (mx_i h0 388) k y) (kont : ∀ h', mxG h' → mxU (fun b => b = 389) h0 h' → (∀ y, prt y all → Vw (wR r ns) (mx_i h' 389) (k + 1) y) → H_267_76 (d + 2) h' (nI all) (nI c) (nI k) 0 Q) : ∀ x h, x ≤ all + 1 → mxG h → mxU (fun b => b = 389) h0 h → (∀ y, prt y all → x ≤ y → Vw (wR r ns) (mx_i h 389) (k + 1) y) → H_267_23 (d + 2) h (nI all) (nI c) (nI k) (nI x + (-1)) Q := by
  intro x
  induction x with
  | zero =>
    intro h _ G U st
    refine tr_267_23 G ⟨fun _ => kont h G U (fun y hy => st y hy (Nat.zero_le _)), fun q => absurd (by decide) q⟩
  | succ x ih =>
    intro h hx G U st
    have ex : nI (x + 1) + (-1) = nI x := by rw [← nI_1]; grind
    have x10 : x < 1024 := by omega
    have e388 : mx_i h 388 = mx_i h0 388 := mxU_i U (by decide)
    rw [ex]
    refine tr_267_23 G ⟨fun q => absurd q (nI_pos (by omega)), fun _ => ⟨fun q => ⟨vp_in_nI (by omega) (by decide), fun h4 e4 => ?_⟩, fun q => ?_⟩⟩
    · have hp := (nI_prt x10).mp q
      rw [nI_clamp (by omega), e388] at e4
      have U4 : mxU (fun b => b = 389) h h4 := mxU_wi' e4 rfl
      have G4 := mxU_G U4 G
      have tr : ∀ y, prt y x → prt y all := fun y py => by
        unfold prt at hp py ⊢
        rw [← py, Nat.and_assoc, hp]
      obtain ⟨u, hu, eu, iu⟩ := old x hp
      refine H267p (h0 := h4) C (by rw [mxU_i U4 (by decide), mxU_i U (by decide)]; exact e0) ha x10 (fun y _ py => by rw [mxU_i U4 (by decide), e388]; exact old y (tr y py)) (fun h' U' f' t' => ?_) x (Nat.le_refl _) (Nat.and_self x) h4 G4 mxU_rfl (fun _ _ => rfl) ⟨u, hu, by rw [e4, wi_at rfl rfl, eu], fun B hB => ?_⟩
      · refine ih h' (by omega) (mxU_G U' G4) (mxU_tr U (mxU_tr U4 U')) (fun y hy l => ?_)
        by_cases q : y = x
        · rw [q]; exact t'
        · have := st y hy (by omega)
          unfold Vw at this ⊢
          rw [f' y q, e4, wi_nj q]; exact this
      · rw [iu B hB]
        constructor
        · exact .inl
        · rintro (a | ⟨q, q1, q2, _⟩)
          · exact a
          · have : q ≤ x := by rw [← q2]; exact Nat.and_le_right
            omega
    · refine ih h (by omega) G U (fun y hy l => ?_)
      by_cases q' : y = x
      · exact absurd ((nI_prt x10).mpr (q' ▸ hy)) q
      · exact st y hy (by omega)
theorem H267c (ha : all < 1024) {k : Nat} {w : Nat → Nat} (new : ∀ y, prt y all → Vw w (mx_i h0 389) (k + 1) y) (kont : ∀ h', mxG h' → mxU (fun b => b = 388) h0 h' → (∀ y, prt y all → Vw w (mx_i h' 388) (k + 1) y) → H_267_18 (d + 2) h' (nI all) (nI c) (nI (k + 1)) Q) : ∀ j x h, x + j = all + 1 → mxG h → mxU (fun b => b = 388) h0 h → (∀ y, prt y all → y < x → mx_i h 388 y = mx_i h0 389 y) → H_267_76 (d + 2) h (nI all) (nI c) (nI k) (nI x) Q := by
  intro j
  induction j with
  | zero =>
    intro x h hx G U st
    refine tr_267_76 G ⟨fun _ => ?_, fun q => absurd (nI_lt (by omega) (by omega)) q⟩
    rw [nI_1]
    refine kont h G U (fun y hy => ?_)
    have : y ≤ all := by rw [← hy]; exact Nat.and_le_right
    have n := new y hy
    unfold Vw at n ⊢
    rw [st y hy (by omega)]; exact n
  | succ j ih =>
    intro x h hx G U st
    have x10 : x < 1024 := by omega
    have vx : vp_in (nI x) 1024 := vp_in_nI (by omega) (by decide)
    refine tr_267_76 G ⟨fun q => ?_, fun _ => ⟨⟨fun _ => ⟨vx, trivial⟩, fun _ => ⟨vx, trivial⟩⟩, fun v2 e2 => ⟨vx, fun h4 e4 => ?_⟩⟩⟩
    · rw [nI_lt_iff (by omega) (by omega)] at q; omega
    · rw [nI_clamp (by omega)] at e2 e4
      rw [nI_1]
      refine ih (x + 1) h4 (by omega) (by rw [e4]; exact mxG_wi G) (mxU_tr U (mxU_wi' e4 rfl)) (fun y hy l => ?_)
      rw [e4, wi_row]
      by_cases q : y = x
      · rw [if_pos q, e2, if_pos ((nI_prt x10).mpr (q ▸ hy)), mxU_i U (by decide), q]
      · rw [if_neg q]; exact st y hy (by omega)
theorem H267 (C : CpN v r np ns nl) (e0 : mx_i h0 382 = r) (ha : all < 1024) (hc : c ≤ 6) (G0 : mxG h0) (fin : ∀ x h1, mxU (fun b => b = 388 ∨ b = 389) h0 h1 → (∃ u : Nat, u ≤ 2000000000 ∧ x = nI u ∧ ∀ B, B < 2000000000 → (u ≤ B ↔ FM (wR r ns) c all.testBit (fun _ => B))) → Q (.inl (some (.int x))) h1) : mx_wp (d + 2) 267 0 (mx_fr 267 [.ref 381, .int (nI all), .int (nI c)]) [] h0 Q := by
  refine tr_267_0 G0 ?_
  have L18 : ∀ j k h, k + j = c → mxG h → mxU (fun b => b = 388 ∨ b = 389) h0 h → (∀ y, prt y all → Vw (wR r ns) (mx_i h 388) k y) → H_267_18 (d + 2) h (nI all) (nI c) (nI k) Q := by
    intro j
    induction j with
    | zero =>
      intro k h hk G U st
      have hk' : k = c := by omega
      subst hk'
      refine tr_267_18 G ⟨fun q => absurd q Int32.lt_irrefl, fun _ => ⟨vp_in_nI (by omega) (by decide), ?_⟩⟩
      rw [nI_clamp (by omega)]
      exact fin _ h U (st all (Nat.and_self all))
    | succ j ih =>
      intro k h hk G U st
      refine tr_267_18 G ⟨fun _ => ?_, fun q => absurd (nI_lt (by omega) (by omega)) q⟩
      have := H267s (d := d) (Q := Q) (c := c) (h0 := h) C ((mxU_i U (by decide)).trans e0) ha (k := k) st (fun h' G' U' t' => ?_) (all + 1) h (Nat.le_refl _) G mxU_rfl (fun y hy l => by
        have : y ≤ all := by rw [← hy]; exact Nat.and_le_right
        omega)
      · have ex : nI (all + 1) + (-1) = nI all := by rw [← nI_1]; grind
        rw [ex] at this
        exact this
      · refine H267c (h0 := h') ha t' (fun h'' G'' U'' t'' => ih (k + 1) h'' (by omega) G'' (mxU_tr U (mxU_tr (mxU_mono (fun b hb => .inr hb) U') (mxU_mono (fun b hb => .inl hb) U''))) t'') (all + 1) 0 h' (by omega) G' mxU_rfl (fun y _ l => by omega)
  have L2 : ∀ j i h, i + j = 1024 → mxG h → mxU (fun b => b = 388 ∨ b = 389) h0 h → (∀ y, y < i → mx_i h 388 y = if y = 0 then 0 else 2000000000) → H_267_2 (d + 2) h (nI all) (nI c) (nI i) Q := by
    intro j
    induction j with
    | zero =>
      intro i h hi G U t
      have hi' : i = 1024 := by omega
      subst hi'
      refine tr_267_2 G ⟨fun q => absurd q (by decide), fun _ => L18 c 0 h (by omega) G U (fun y hy => ?_)⟩
      have hy2 : y ≤ all := by rw [← hy]; exact Nat.and_le_right
      have := t y (by omega)
      by_cases q : y = 0
      · rw [if_pos q] at this
        exact ⟨0, by omega, this, fun B _ => ⟨fun _ z _ => by rw [q]; exact Nat.zero_testBit z, fun _ => Nat.zero_le _⟩⟩
      · rw [if_neg q] at this
        obtain ⟨z, hz, hb⟩ := bit_ex (by omega) q
        exact ⟨2000000000, by omega, this, fun B hB => ⟨fun l => by omega, fun f => by have := f z hz; rw [hb] at this; exact absurd this (by decide)⟩⟩
    | succ j ih =>
      intro i h hi G U t
      refine tr_267_2 G ⟨fun _ v2 e2 => ⟨vp_in_nI (by omega) (by decide), fun h4 e4 => ?_⟩, fun q => absurd (nI_lt (b := 1024) (by omega) (by omega)) q⟩
      rw [nI_clamp (by omega)] at e4
      rw [nI_1]
      refine ih (i + 1) h4 (by omega) (by rw [e4]; exact mxG_wi G) (mxU_tr U (mxU_wi' e4 (.inl rfl))) (fun y hy => ?_)
      rw [e4, wi_row]
      by_cases q : y = i
      · rw [if_pos q, e2]
        by_cases q0 : i = 0
        · rw [q0, if_pos (by rfl), if_pos (by omega)]
        · rw [if_neg (show ¬ nI i = 0 from fun z => q0 ((nI_eq (b := 0) (by omega) (by decide)).mp z)), if_neg (by omega)]
      · rw [if_neg q]; exact t y (by omega)
  exact L2 1024 0 h0 (by omega) G0 mxU_rfl (fun y hy => by omega)
end
