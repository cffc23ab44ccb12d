/-! SPECS by hand, 12: the class's conditions -/
theorem nz_clJ (c : Int32) : ∀ (K o : List Int32), (clJ c K o).2.length + nz (clJ c K o).1 = o.length + nz K := by
  intro K
  induction K with
  | nil => intro o; rfl
  | cons x K ih =>
    intro o
    unfold clJ
    split
    · rename_i e
      rw [ih, List.length_append]
      have : nz (x :: K) = nz K + 1 := by rcases e with rfl | ⟨rfl, -⟩ <;> rfl
      rw [this]
      show o.length + 1 + nz K = _
      omega
    · rfl
theorem Sy_push {h h1 : mxH} {b n p : Nat} {T : Nat → Int32} {K o : List Int32} {v : Int32} (hb : 150 < b) (S : SyI h b T n p K o) (hv : (v = 1013 ∧ topE K) ∨ (v = 1014 ∧ topS K)) (hz : o.length + nz K + 1 ≤ p) (w : p37 v h h1) : SyI h1 b T n p (v :: K) o := by
  have hl := SyI_len S
  obtain ⟨C, ⟨l1, l2, l3, l4⟩, O, k1, k2, hp, -⟩ := S
  obtain ⟨w1, w2, w3⟩ := w
  obtain ⟨a, c⟩ := w3 K.length (by omega) l1
  have ed : dpK (v :: K) = dpK K := by rcases hv with ⟨rfl, -⟩ | ⟨rfl, -⟩ <;> rfl
  have eb : brK (v :: K) = brK K := by rcases hv with ⟨rfl, -⟩ | ⟨rfl, -⟩ <;> rfl
  have ez : nz (v :: K) = nz K + 1 := by rcases hv with ⟨rfl, -⟩ | ⟨rfl, -⟩ <;> rfl
  refine ⟨Cl_U w1 (fun c _ _ => by omega) C, ⟨a, ?_, ?_, ?_, ?_⟩, Co_U w1 ⟨by omega, by omega⟩ O, ⟨k1, .inr (.inr hv)⟩, by omega, hp, by omega⟩
  · rw [w2 2 (by decide), l2, ed]
  · rw [w2 3 (by decide), l3, eb]
  · rw [c, if_pos rfl]
  · refine onS_congr (fun j hj => ?_) l4
    rw [c, if_neg (by omega)]
theorem SyI_1 {h h1 : mxH} {b n p q : Nat} {T : Nat → Int32} {K o s : List Int32} (hb : 150 < b) (S : SyI h b T n p K o) (u : fr1 b h h1) (C : Cl h1 T n q) (O : Co h1 b (o ++ s)) (hs : s.length + p ≤ q) (hq : q ≤ n) : SyI h1 b T n q K (o ++ s) := by
  obtain ⟨-, ⟨l1, l2, l3, l4⟩, -, k1, k2, hp, hz⟩ := S
  refine ⟨C, ?_, O, k1, k2, hq, by rw [List.length_append]; omega⟩
  unfold Lt
  rw [mxU_i u.1 (by omega), mxU_i u.1 (by omega)]
  exact ⟨l1, l2, l3, l4⟩
theorem H33 {d b n : Nat} {T : Nat → Int32} {h0 : mxH} {Q : mxO → mxH → Prop} {R : PR} (hVb : (mxT b).1 = 3) (k : ∀ x h1, frL b h0 h1 → outC b T n [] R x h1 → Q (.inl (some (.int x))) h1) : ∀ (f r p : Nat) (K o : List Int32) (h : mxH), f + r = 400 → mxG h → SyI h b T n p K o → frL b h0 h → SY T n f p K o = some R → H_33_11 (d + 4) h b (nI r) Q := by
  have hb := mxT3 hVb
  intro f
  induction f with
  | zero => intro r p K o h hf G S F hR; cases hR
  | succ f ih =>
    intro r p K o h hf G S F hR
    have hn := Cl_n S.1
    refine tr_33_11 G hVb ⟨fun _ => ⟨⟨b, (T, n, p, K, o), hb, S⟩, fun x3 h4 u4 => ?_⟩, fun c => absurd (show nI r < 400 from nI_lt (b := 400) (by omega) (by decide)) c⟩
    have z := u4.2.2 b T n p K o hb S
    have F4 := frL_tr F (u4.2.1 b hb)
    have G4 := mxU_G u4.1 G
    rw [SY_s] at hR
    match ho : opn T n (7 - dpK K) p K with
    | .inl e =>
      rw [ho] at z hR
      cases hR
      exact ⟨fun _ => k _ _ F4 ⟨rfl, z.2⟩, fun c => absurd z.1 c⟩
    | .inr (p1, K1) =>
      rw [ho] at z hR
      have hR : (match pPl T n p1 with
        | .inl e => some (.inl e)
        | .inr (s, q) => SX (SY T n f) T n q K1 (o ++ s)) = some R := hR
      obtain ⟨z1, S4⟩ := z
      have p1n := S4.2.2.2.2.2.1
      have o1 := S4.2.2.2.2.2.2
      refine ⟨fun c => absurd (z1.symm.trans c) (by decide), fun _ => ⟨⟨(T, n, p1, o), S4.1, p1n, S4.2.2.1, by show o.length ≤ p1; omega⟩, fun x9 h10 u10 => ?_⟩⟩
      have y := u10.2 T n p1 o S4.1 p1n S4.2.2.1 (by omega)
      have F10 := frL_tr F4 (frL_1 (by omega) u10.1)
      have G10 := mxU_G u10.1.1 G4
      match hp : pPl T n p1 with
      | .inl e =>
        rw [hp] at y hR
        cases hR
        exact ⟨fun _ => k _ _ F10 ⟨rfl, y.2⟩, fun c => absurd y.1 c⟩
      | .inr (s, q) =>
        rw [hp] at y hR
        have hR : SX (SY T n f) T n q K1 (o ++ s) = some R := hR
        obtain ⟨y1, y2, y3⟩ := y
        have ls := pPl_len hn p1n hp
        have lq := pPl_pr hn p1n hp
        have S10 := SyI_1 hb S4 u10.1 y2 y3 ls lq.2
        refine ⟨fun c => absurd (y1.symm.trans c) (by decide), fun _ => ⟨⟨(T, n, q, K1, o ++ s), S10⟩, fun h16 u16 => ?_⟩⟩
        have S16 := u16.2 T n q K1 (o ++ s) S10
        have F16 := frL_tr F10 u16.1
        have G16 := mxU_G u16.1.1 G10
        have N16 := nN_cl K1 (o ++ s)
        refine ⟨⟨(T, n, q, (clN K1 (o ++ s)).1, (clN K1 (o ++ s)).2), S16, N16⟩, fun h21 u21 => ?_⟩
        obtain ⟨S21, N21⟩ := u21.2 T n q _ _ S16 N16
        have F21 := frL_tr F16 u21.1
        have G21 := mxU_G u21.1.1 G16
        unfold SX at hR
        generalize clB T n (brK (clN K1 (o ++ s)).1) q (clN K1 (o ++ s)).1 (clN K1 (o ++ s)).2 = B at S21 N21 hR
        obtain ⟨q2, K2, o2⟩ := B
        have S21 : SyI h21 b T n q2 K2 o2 := S21
        have N21 : nN K2 := N21
        have q2n := S21.2.2.2.2.2.1
        have oz := S21.2.2.2.2.2.2
        have gq := sk_ge (T := T) (n := n) q2
        have hR : (if wrd T n 15 q2 = true then SY T n f (sk T n q2 + wl 15) (1013 :: (clJ 1013 K2 o2).1) (clJ 1013 K2 o2).2 else if wrd T n 14 q2 = true then SY T n f (sk T n q2 + wl 14) (1014 :: (clJ 1014 K2 o2).1) (clJ 1014 K2 o2).2 else if brK K2 = 0 then some (.inr ((clJ 1014 K2 o2).2, sk T n q2)) else some (.inl (sk T n q2))) = some R := hR
        refine ⟨⟨T, n, q2, S21.1⟩, by omega, fun x26 h27 u27 => ?_⟩
        rcases u27.2 T n q2 15 S21.1 (by decide) rfl with ⟨w1, w2, w3⟩ | ⟨w1, w2, w3⟩
        · have w1 : wrd T n 15 q2 = true := w1
          have w3 : Cl h27 T n (sk T n q2 + wl 15) := w3
          have wi := wrd_in (by decide) w1
          have wl1 := wl_pos (k := 15) (by decide)
          rw [if_pos w1] at hR
          have S27 := SyI_mv hb S21 u27.1 w3 ⟨by omega, by omega⟩
          refine ⟨fun c => absurd (w2.symm.trans c) (by decide), fun _ => ⟨⟨(T, n, _, K2, o2), S27⟩, fun h57 u57 => ?_⟩⟩
          have S57 := u57.2 T n _ K2 o2 S27
          have hl57 := SyI_len S57
          refine ⟨⟨_, by omega, S57.2.1.1⟩, fun h62 u62 => ?_⟩
          have nzq := nz_clJ 1013 K2 o2
          have S62 := Sy_push hb S57 (.inl ⟨rfl, topE_cl S21.2.2.2.1 N21 o2⟩) (by omega) u62
          rw [nI_1]
          exact ih (r + 1) _ _ _ h62 (by omega) (mxU_G u62.1 (mxU_G u57.1.1 (mxK_G (mvC_K u27.1) G21))) S62 (frL_tr F21 (frL_tr (frL_mv hb u27.1) (frL_tr u57.1 (frL_37 hb u62)))) hR
        · have w1 : ¬ wrd T n 15 q2 = true := w1
          rw [if_neg w1] at hR
          subst w3
          refine ⟨fun _ => ⟨⟨T, n, q2, S21.1⟩, by omega, fun x33 h34 u34 => ?_⟩, fun c => absurd w2 c⟩
          rcases u34.2 T n q2 14 S21.1 (by decide) rfl with ⟨v1, v2, v3⟩ | ⟨v1, v2, v3⟩
          · have v1 : wrd T n 14 q2 = true := v1
            have v3 : Cl h34 T n (sk T n q2 + wl 14) := v3
            have wi := wrd_in (by decide) v1
            have wl1 := wl_pos (k := 14) (by decide)
            rw [if_pos v1] at hR
            have S27 := SyI_mv hb S21 u34.1 v3 ⟨by omega, by omega⟩
            refine ⟨fun c => absurd (v2.symm.trans c) (by decide), fun _ => ⟨⟨(T, n, _, K2, o2), S27⟩, fun h57 u57 => ?_⟩⟩
            have S57 := u57.2 T n _ K2 o2 S27
            have hl57 := SyI_len S57
            refine ⟨⟨_, by omega, S57.2.1.1⟩, fun h62 u62 => ?_⟩
            have nzq := nz_clJ 1014 K2 o2
            have S62 := Sy_push hb S57 (.inr ⟨rfl, topS_cl S21.2.2.2.1 N21 o2⟩) (by omega) u62
            rw [nI_1]
            exact ih (r + 1) _ _ _ h62 (by omega) (mxU_G u62.1 (mxU_G u57.1.1 (mxK_G (mvC_K u34.1) G21))) S62 (frL_tr F21 (frL_tr (frL_mv hb u34.1) (frL_tr u57.1 (frL_37 hb u62)))) hR
          · have v1 : ¬ wrd T n 14 q2 = true := v1
            rw [if_neg v1] at hR
            subst v3
            refine ⟨fun _ => ⟨⟨(T, n, q2, K2, o2), S21⟩, fun h40 u40 v43 e43 => ?_⟩, fun c => absurd v2 c⟩
            have S40 := u40.2 T n q2 K2 o2 S21
            have bz : mx_i h40 107 3 = nI (brK K2) := by rw [S40.2.1.2.2.1, brK_clJ]
            have F40 := frL_tr F21 u40.1
            have bd := brK_dp K2
            have d6 := S21.2.2.2.2.1
            rw [bz] at e43
            by_cases c : brK K2 = 0
            · rw [if_pos c] at hR
              rw [c, if_pos (show nI 0 = 0 from rfl)] at e43
              cases hR
              exact k _ _ F40 ⟨e43, Cl_sk S40.1, S40.2.2.1⟩
            · rw [if_neg c] at hR
              rw [if_neg (show ¬ nI (brK K2) = 0 from fun y => c ((nI_eq (b := 0) (by omega) (by decide)).mp y))] at e43
              cases hR
              exact k _ _ F40 ⟨e43, q2, S40.1, rfl⟩
def p33 (b : Nat) (h : mxH) (x : Int32) (h1 : mxH) : Prop := frL b h h1 ∧ ∀ T n p o, Cl h T n p → p ≤ n → 1 ≤ p → Co h b o → o.length ≤ p → outC b T n o (cnd T n p) x h1
theorem sp_33 {d b : Nat} {h : mxH} {Q : mxO → mxH → Prop} (G : mxG h) (hVb : (mxT b).1 = 3) (ok : ∃ a, atC h b a ∧ 1 ≤ a.2.2.1) (k : ∀ x h1, p33 b h x h1 → Q (.inl (some (.int x))) h1) : mx_wp (d + 4) 33 0 (mx_fr 33 [.ref 107, .ref 101, .ref b]) [] h Q := by
  have hb := mxT3 hVb
  refine all_mut (F := frL b h) (R := fun a x h1 => outC b a.1 a.2.1 a.2.2.2 (cnd a.1 a.2.1 a.2.2.1) x h1) ok (fun a pa => ?_) (fun x h1 f r => k x h1 ⟨f, fun T n p o C hp h1 O hl => r (T, n, p, o) ⟨⟨C, hp, O, hl⟩, h1⟩⟩)
  obtain ⟨T, n, p, o⟩ := a
  obtain ⟨⟨C, hpn, O, hol⟩, h1⟩ := pa
  have C : Cl h T n p := C
  have hpn : p ≤ n := hpn
  have O : Co h b o := O
  have hol : o.length ≤ p := hol
  have h1 : 1 ≤ p := h1
  have hn := Cl_n C
  refine tr_33_0 G hVb (fun h1 e1 h4 e4 h7 e7 => ?_)
  subst e1 e4 e7
  have cv : ∀ x h1, outC b T n [] (match cnd T n p with
    | .inl e => .inl e
    | .inr (s, q) => .inr (o ++ s, q)) x h1 → outC b T n o (cnd T n p) x h1 := by
    intro x h1 r
    match hc : cnd T n p, r with
    | .inl e, r => exact r
    | .inr (s, q), r => exact r
  refine H33 hVb (h0 := h) (fun x h1 f r => ⟨x, rfl, f, cv x h1 r⟩) 400 0 p [] o _ (by omega) (mxG_wi (mxG_wi (mxG_wi G))) ⟨Cl_107 (Cl_107 (Cl_107 C)), ⟨?_, ?_, ?_, trivial⟩, ?_, trivial, Nat.zero_le _, hpn, by show o.length + 0 ≤ p; omega⟩ (frL_tr (frL_tr (frL_107 hb) (frL_107 hb)) (frL_107 hb)) (cnd_SY hn hpn h1 o)
  · rw [wi_nj (by decide), wi_nj (by decide), wi_at rfl rfl]; rfl
  · rw [wi_nj (by decide), wi_at rfl rfl]; rfl
  · rw [wi_at rfl rfl]; rfl
  · unfold Co
    rw [wi_ne (by omega), wi_ne (by omega), wi_ne (by omega), wi_ne (by omega), wi_ne (by omega), wi_ne (by omega)]
    exact O
/-! a line of the law -/
def pKd (T : Nat → Int32) (n p : Nat) : Sum Nat (Int32 × Nat) := if wrd T n 10 p = true then .inr (0, sk T n p + wl 10) else if wrd T n 11 p = true then .inr (1, sk T n p + wl 11) else if wrd T n 12 p = true then .inr (2, sk T n p + wl 12) else .inl (sk T n p)
def p32 (h : mxH) (x : Int32) (h1 : mxH) : Prop := mvC h h1 ∧ ∀ T n p, Cl h T n p → match pKd T n p with
  | .inl _ => x = -1 ∧ h1 = h
  | .inr (v, q) => x = v ∧ ¬ x = -1 ∧ Cl h1 T n q
theorem S32 {d n p : Nat} {T : Nat → Int32} {h : mxH} {Q : mxO → mxH → Prop} (G : mxG h) (C : Cl h T n p) (k : ∀ x h1, mvC h h1 → (match pKd T n p with
  | .inl _ => x = -1 ∧ h1 = h
  | .inr (v, q) => x = v ∧ ¬ x = -1 ∧ Cl h1 T n q) → Q (.inl (some (.int x))) h1) : mx_wp (d + 1) 32 0 (mx_fr 32 [.ref 101]) [] h Q := by
  refine trn_32_0 G ⟨⟨T, n, p, C⟩, by omega, fun x3 h4 u4 => ?_⟩
  unfold pKd at k
  rcases u4.2 T n p 10 C (by decide) rfl with ⟨a1, a2, a3⟩ | ⟨a1, a2, a3⟩
  · rw [if_pos (show wrd T n 10 p = true from a1)] at k
    exact ⟨fun c => absurd (a2.symm.trans c) (by decide), fun _ => k _ _ u4.1 ⟨rfl, by decide, a3⟩⟩
  · rw [if_neg (show ¬ wrd T n 10 p = true from a1)] at k
    subst a3
    refine ⟨fun _ => ⟨⟨T, n, p, C⟩, by omega, fun x5 h5 u5 => ?_⟩, fun c => absurd a2 c⟩
    rcases u5.2 T n p 11 C (by decide) rfl with ⟨b1, b2, b3⟩ | ⟨b1, b2, b3⟩
    · rw [if_pos (show wrd T n 11 p = true from b1)] at k
      exact ⟨fun c => absurd (b2.symm.trans c) (by decide), fun _ => k _ _ u5.1 ⟨rfl, by decide, b3⟩⟩
    · rw [if_neg (show ¬ wrd T n 11 p = true from b1)] at k
      subst b3
      refine ⟨fun _ => ⟨⟨T, n, p, C⟩, by omega, fun x6 h6 u6 v ev => ?_⟩, fun c => absurd b2 c⟩
      rcases u6.2 T n p 12 C (by decide) rfl with ⟨c1, c2, c3⟩ | ⟨c1, c2, c3⟩
      · rw [if_pos (show wrd T n 12 p = true from c1)] at k
        rw [c2, if_neg (by decide)] at ev
        subst ev
        exact k _ _ u6.1 ⟨rfl, by decide, c3⟩
      · rw [if_neg (show ¬ wrd T n 12 p = true from c1)] at k
        rw [c2, if_pos rfl] at ev
        subst ev
        exact k _ _ u6.1 ⟨rfl, c3⟩
theorem spm_32 {d : Nat} {h : mxH} {Q : mxO → mxH → Prop} (G : mxG h) (ok : okC h) (k : ∀ x h1, p32 h x h1 → Q (.inl (some (.int x))) h1) : mx_wp (d + 1) 32 0 (mx_fr 32 [.ref 101]) [] h Q := by
  obtain ⟨T, n, p, C⟩ := ok
  refine all_mut (α := (Nat → Int32) × Nat × Nat) (P := fun a => Cl h a.1 a.2.1 a.2.2) (F := mvC h) (R := fun a x h1 => match pKd a.1 a.2.1 a.2.2 with
    | .inl _ => x = -1 ∧ h1 = h
    | .inr (v, q) => x = v ∧ ¬ x = -1 ∧ Cl h1 a.1 a.2.1 q) ⟨(T, n, p), C⟩ (fun a pa => ?_) (fun x h1 f r => k x h1 ⟨f, fun T n p C => r (T, n, p) C⟩)
  exact S32 G pa (fun x h1 f r => ⟨x, rfl, f, r⟩)
/-- codes are no more than what was read -/
theorem pX_len {T : Nat → Int32} {n : Nat} (hn : n ≤ 400) : ∀ (f m dp : Nat) (s : List Int32) (p : Nat) (s2 : List Int32) (q : Nat), p ≤ n → pX T n f m dp s p = some (.inr (s2, q)) → ((m = 2 ∨ 4 ≤ m) → s2.length + p ≤ s.length + q) ∧ (¬ (m = 2 ∨ 4 ≤ m) → s2.length + p ≤ q) := by
  intro f
  induction f with
  | zero => intro m dp s p s2 q _ h; cases h
  | succ f ih =>
    intro m dp s p s2 q hp h
    have g := sk_ge (T := T) (n := n) p
    match m, h with
    | 0, h =>
      refine ⟨fun c => by omega, fun _ => ?_⟩
      unfold pX at h
      split at h
      · rename_i w
        have w := wrd_in (by decide) w
        have w2 := wl_pos (k := 16) (by decide)
        split at h
        · cases h
        · rcases bn_inr h with ⟨e, e1, e2⟩ | ⟨s1, q1, e1, e2⟩
          · cases e2
          · cases e2
            have := (ih _ _ _ _ _ _ (by omega) e1).2 (by omega)
            rw [List.length_append]
            show s1.length + 1 + p ≤ q
            omega
      · split at h
        · rename_i w
          have w := sgn_in w
          split at h
          · cases h
          · rcases bn_inr h with ⟨e, e1, e2⟩ | ⟨s1, q1, e1, e2⟩
            · cases e2
            · have := (ih _ _ _ _ _ _ (by omega) e1).2 (by omega)
              have g3 := sk_ge (T := T) (n := n) q1
              split at e2
              · cases e2
                omega
              · cases e2
        · exact pPl_len hn hp (Option.some.inj h)
    | 1, h =>
      refine ⟨fun c => by omega, fun _ => ?_⟩
      unfold pX at h
      rcases bn_inr h with ⟨e, e1, e2⟩ | ⟨s1, q1, e1, e2⟩
      · cases e2
      · have a := (ih _ _ _ _ _ _ hp e1).2 (by omega)
        have b := (ih _ _ _ _ _ _ ((pX_pr hn _ _ _ _ _ _ _ hp e1).2 (by omega)).2 e2).1 (by omega)
        omega
    | 2, h =>
      refine ⟨fun _ => ?_, fun c => by omega⟩
      unfold pX at h
      split at h
      · rename_i w
        have w := wrd_in (by decide) w
        have w2 := wl_pos (k := 15) (by decide)
        rcases bn_inr h with ⟨e, e1, e2⟩ | ⟨s1, q1, e1, e2⟩
        · cases e2
        · have a := (ih _ _ _ _ _ _ (by omega) e1).2 (by omega)
          have b := (ih _ _ _ _ _ _ ((pX_pr hn _ _ _ _ _ _ _ (by omega) e1).2 (by omega)).2 e2).1 (by omega)
          have l : (s ++ s1 ++ [1013]).length = s.length + s1.length + 1 := by simp [Nat.add_assoc]
          omega
      · cases h; omega
    | 3, h =>
      refine ⟨fun c => by omega, fun _ => ?_⟩
      unfold pX at h
      rcases bn_inr h with ⟨e, e1, e2⟩ | ⟨s1, q1, e1, e2⟩
      · cases e2
      · have a := (ih _ _ _ _ _ _ hp e1).2 (by omega)
        have b := (ih _ _ _ _ _ _ ((pX_pr hn _ _ _ _ _ _ _ hp e1).2 (by omega)).2 e2).1 (by omega)
        omega
    | m + 4, h =>
      refine ⟨fun _ => ?_, fun c => by omega⟩
      unfold pX at h
      split at h
      · rename_i w
        have w := wrd_in (by decide) w
        have w2 := wl_pos (k := 14) (by decide)
        rcases bn_inr h with ⟨e, e1, e2⟩ | ⟨s1, q1, e1, e2⟩
        · cases e2
        · have a := (ih _ _ _ _ _ _ (by omega) e1).2 (by omega)
          have b := (ih _ _ _ _ _ _ ((pX_pr hn _ _ _ _ _ _ _ (by omega) e1).2 (by omega)).2 e2).1 (by omega)
          have l : (s ++ s1 ++ [1014]).length = s.length + s1.length + 1 := by simp [Nat.add_assoc]
          omega
      · cases h; omega
theorem cnd_pr {T : Nat → Int32} {n p q : Nat} {s : List Int32} (hn : n ≤ 400) (hp : p ≤ n) (h : cnd T n p = .inr (s, q)) : s.length + p ≤ q ∧ p < q ∧ q ≤ n := by
  have x := cnd_x (T := T) hn hp
  rw [h] at x
  have a := (pX_len hn _ _ _ _ _ _ _ hp x).2 (by omega)
  have b := (pX_pr hn _ _ _ _ _ _ _ hp x).2 (by omega)
  have g := sk_ge (T := T) (n := n) p
  omega
abbrev LL : Type := Int32 × Int32 × List Int32
def pLine (T : Nat → Int32) (n p : Nat) : Sum Nat (LL × Nat) := match pKd T n p with
  | .inl e => .inl e
  | .inr (v, q) => if sk T n q < endN T n q ∧ endN T n q ≤ sk T n q + 3 ∧ ¬ numN T n q < 0 ∧ ¬ 99 < numN T n q then (if wrd T n 13 (endN T n q) = true then (match cnd T n (sk T n (endN T n q) + wl 13) with
      | .inl e => .inl e
      | .inr (s, q2) => .inr ((v, numN T n q, s), q2)) else .inr ((v, numN T n q, []), endN T n q)) else .inl (sk T n q)
