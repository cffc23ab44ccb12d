/-! SPECS by hand, 11: the class's atoms, brackets; the reference's parts -/
section
variable {T : Nat → Int32} {n : Nat}
theorem pSl_len : ∀ (f : Nat) {s s2 : List Int32} {q q2 : Nat}, q ≤ n → pSl T n f s q = some (.inr (s2, q2)) → s2.length + q ≤ s.length + q2 := by
  intro f
  induction f with
  | zero => intro s s2 q q2 _ h; cases h
  | succ f ih =>
    intro s s2 q q2 hq h
    rw [pSl_s] at h
    split at h
    · rename_i w
      have w := sgn_in w
      split at h
      · cases h
      · rename_i c q3 e
        have := pPt_pr (by omega) e
        have i := ih this.2 h
        have l : (s ++ [c, 1010]).length = s.length + 2 := by simp
        have g := sk_ge (T := T) (n := n) q
        have g2 := sk_ge (T := T) (n := n) (sk T n q + 1)
        omega
    · cases h; have := sk_ge (T := T) (n := n) q; omega
theorem pSm_len {p q : Nat} {s : List Int32} (hn : n ≤ 400) (hp : p ≤ n) (h : pSm T n p = .inr (s, q)) : s.length + p ≤ q := by
  unfold pSm at h
  split at h
  · cases h
  · rename_i c q1 e
    have a := pPt_pr hp e
    have g := sk_ge (T := T) (n := n) p
    obtain ⟨r, hr⟩ := pSl_tot (T := T) 400 (s := [c]) a.2 (by omega)
    rw [hr] at h
    have : r = .inr (s, q) := h
    subst this
    have := pSl_len _ a.2 hr
    have l : ([c] : List Int32).length = 1 := rfl
    omega
theorem pCm_len {p q : Nat} {c : Int32} {a s : List Int32} (hn : n ≤ 400) (hp : sk T n p < n) (h : pCm T n c a p = .inr (s, q)) : s.length + p ≤ a.length + q := by
  unfold pCm at h
  split at h
  · cases h
  · rename_i b q2 e
    have := pSm_len hn (by omega) e
    cases h
    have g := sk_ge (T := T) (n := n) p
    have l : (a ++ b ++ [c]).length = a.length + b.length + 1 := by simp [Nat.add_assoc]
    omega
theorem pPl_len {p q : Nat} {s : List Int32} (hn : n ≤ 400) (hp : p ≤ n) (h : pPl T n p = .inr (s, q)) : s.length + p ≤ q := by
  have g := sk_ge (T := T) (n := n) p
  unfold pPl at h
  split at h
  · rename_i w; cases h
    have := wl_pos (k := 17) (by decide)
    show 1 + p ≤ _
    omega
  · split at h
    · rename_i w; cases h
      have := wl_pos (k := 18) (by decide)
      show 1 + p ≤ _
      omega
    · split at h
      · cases h
      · rename_i a q1 e
        have i := pSm_len hn hp e
        split at h
        · rename_i w
          have := pCm_len hn (sgn_in w).1 h
          omega
        · split at h
          · rename_i w
            have := pCm_len hn (sgn_in w).1 h
            omega
          · cases h
end
def p35 (b : Nat) (h : mxH) (x : Int32) (h1 : mxH) : Prop := fr1 b h h1 ∧ ∀ T n p o, Cl h T n p → p ≤ n → Co h b o → o.length ≤ p → outC b T n o (pPl T n p) x h1
theorem Co_fr {b : Nat} {h : mxH} {o : List Int32} (C : Co h b o) : ∀ o', Co h b o' → o' = o ∨ ¬ (o.length < 2 ^ 31 ∧ o'.length < 2 ^ 31) := by
  intro o' C'
  by_cases z : o.length < 2 ^ 31 ∧ o'.length < 2 ^ 31
  · left
    have l : o'.length = o.length := (nI_eq z.2 z.1).mp (C'.1.symm.trans C.1)
    apply List.ext_getElem l
    intro i h1 h2
    have a := C.2 i h2
    have a' := C'.2 i h1
    rw [List.getD_eq_getElem?_getD, List.getElem?_eq_getElem h2] at a
    rw [List.getD_eq_getElem?_getD, List.getElem?_eq_getElem h1] at a'
    exact a'.symm.trans a
  · exact .inr z
theorem S35 {d b n p : Nat} {T : Nat → Int32} {o : List Int32} {h : mxH} {Q : mxO → mxH → Prop} (G : mxG h) (hVb : (mxT b).1 = 3) (C : Cl h T n p) (hpn : p ≤ n) (O : Co h b o) (hol : o.length ≤ p) (fin : ∀ x h1, fr1 b h h1 → outC b T n o (pPl T n p) x h1 → Q (.inl (some (.int x))) h1) : mx_wp (d + 3) 35 0 (mx_fr 35 [.ref 107, .ref 101, .ref b]) [] h Q := by
  have hb := mxT3 hVb
  have hn := Cl_n C
  have gp := sk_ge (T := T) (n := n) p
  -- the second sum, behind a sign
  have cmp : ∀ (h23 : mxH) (a : List Int32) (q : Nat) (v : Int32), mxG h23 → Cl h23 T n (sk T n q + 1) → sk T n q < n → q ≤ n → Co h23 b (o ++ a) → a.length + p ≤ q → fr1 b h h23 → pPl T n p = pCm T n v a q → ((∃ a, atC h23 b a) ∧ (∀ (x28 : Int32) (h29 : mxH), p36 b h23 x28 h29 → ((x28 = 0 → Q (.inl (some (.int 0))) h29) ∧ (¬ x28 = 0 → (∀ (v33 : Int32), v33 = v → (cB (mx_i h29 b 2) 400 ∧ (∀ (h36 : mxH), p23 b v33 h29 h36 → Q (.inl (some (.int 1))) h36))))))) := by
    intro h23 a q v G23 C23 hqn hq O23 ha F23 ep
    have gq := sk_ge (T := T) (n := n) q
    have la : (o ++ a).length = o.length + a.length := by simp
    refine ⟨⟨(T, n, sk T n q + 1, o ++ a), C23, by show sk T n q + 1 ≤ n; omega, O23, by show (o ++ a).length ≤ sk T n q + 1; omega⟩, fun x28 h29 u => ?_⟩
    have z := u.2 T n (sk T n q + 1) (o ++ a) C23 (by omega) O23 (by omega)
    have F29 := fr1_tr F23 u.1
    have ep : pPl T n p = match pSm T n (sk T n q + 1) with
      | .inl e => .inl e
      | .inr (b, q2) => .inr (a ++ b ++ [v], q2) := ep
    match hs : pSm T n (sk T n q + 1) with
    | .inl e =>
      rw [hs] at z ep
      rw [ep] at fin
      obtain ⟨z1, z2⟩ := z
      exact ⟨fun _ => fin _ _ F29 ⟨rfl, z2⟩, fun c => absurd z1 c⟩
    | .inr (s, q2) =>
      rw [hs] at z ep
      rw [ep] at fin
      obtain ⟨z1, z2, z3⟩ := z
      have l1 := pSm_len hn (by omega) hs
      have l2 := pSm_pr hn (by omega) hs
      have ls : (o ++ a ++ s).length = o.length + a.length + s.length := by simp [Nat.add_assoc]
      refine ⟨fun c => absurd (z1.symm.trans c) (by decide), fun _ v33 e33 => ⟨Co_c z3 (by omega), fun h36 u36 => ?_⟩⟩
      subst e33
      refine fin _ _ (fr1_tr F29 (fr1_23 (by omega) u36)) ⟨rfl, Cl_23 hb u36 z2, ?_⟩
      have := Co_add z3 (by omega) u36
      rw [show o ++ (a ++ s ++ [v33]) = o ++ a ++ s ++ [v33] by simp]
      exact this
  refine tr_35_0 G hVb ⟨⟨T, n, p, C⟩, by omega, fun x3 h4 u4 => ?_⟩
  have G4 := mxK_G (mvC_K u4.1) G
  have F4 := fr1_mv (b := b) (by omega) u4.1
  have O4 := Co_mv (by omega) u4.1 O
  rcases u4.2 T n p 17 C (by decide) rfl with ⟨a1, a2, a3⟩ | ⟨a1, a2, a3⟩
  · have wi := isW_in (by decide) a1
    have w2 := wl_pos (k := 17) (by decide)
    refine ⟨fun c => absurd (a2.symm.trans c) (by decide), fun _ => ⟨Co_c O4 (by omega), fun h66 u => ?_⟩⟩
    refine fin _ _ (fr1_tr F4 (fr1_23 (by omega) u)) ?_
    have : pPl T n p = .inr ([1007], sk T n p + wl 17) := by unfold pPl; rw [if_pos (show wrd T n 17 p = true from a1)]
    rw [this]
    exact ⟨rfl, Cl_23 hb u a3, Co_add O4 (by omega) u⟩
  · subst a3
    refine ⟨fun _ => ⟨⟨T, n, p, C⟩, by omega, fun x10 h11 u11 => ?_⟩, fun c => absurd a2 c⟩
    have G11 := mxK_G (mvC_K u11.1) G
    have F11 := fr1_mv (b := b) (by omega) u11.1
    have O11 := Co_mv (by omega) u11.1 O
    rcases u11.2 T n p 18 C (by decide) rfl with ⟨b1, b2, b3⟩ | ⟨b1, b2, b3⟩
    · have wi := isW_in (by decide) b1
      have w2 := wl_pos (k := 18) (by decide)
      refine ⟨fun c => absurd (b2.symm.trans c) (by decide), fun _ => ⟨Co_c O11 (by omega), fun h66 u => ?_⟩⟩
      refine fin _ _ (fr1_tr F11 (fr1_23 (by omega) u)) ?_
      have : pPl T n p = .inr ([1008], sk T n p + wl 18) := by unfold pPl; rw [if_neg (show ¬ wrd T n 17 p = true from a1), if_pos (show wrd T n 18 p = true from b1)]
      rw [this]
      exact ⟨rfl, Cl_23 hb u b3, Co_add O11 (by omega) u⟩
    · subst b3
      have ep : pPl T n p = match pSm T n p with
        | .inl e => .inl e
        | .inr (a, q) => if sgn T n 60 q = true then pCm T n 1011 a q else if sgn T n 62 q = true then pCm T n 1012 a q else .inl (sk T n q) := by
        conv => lhs; unfold pPl
        rw [if_neg (show ¬ wrd T n 17 p = true from a1), if_neg (show ¬ wrd T n 18 p = true from b1)]
        rfl
      refine ⟨fun _ => ⟨⟨(T, n, p, o), C, hpn, O, hol⟩, fun x16 h17 u17 => ?_⟩, fun c => absurd b2 c⟩
      have z := u17.2 T n p o C hpn O hol
      have G17 := mxU_G u17.1.1 G
      match hs : pSm T n p with
      | .inl e =>
        rw [hs] at z ep
        obtain ⟨z1, z2⟩ := z
        refine ⟨fun _ => fin _ _ u17.1 ?_, fun c => absurd z1 c⟩
        rw [ep]
        exact ⟨rfl, z2⟩
      | .inr (a, q) =>
        rw [hs] at z ep
        have ep : pPl T n p = if sgn T n 60 q = true then pCm T n 1011 a q else if sgn T n 62 q = true then pCm T n 1012 a q else .inl (sk T n q) := ep
        obtain ⟨z1, z2, z3⟩ := z
        have l1 := pSm_len hn hpn hs
        have l2 := pSm_pr hn hpn hs
        refine ⟨fun c => absurd (z1.symm.trans c) (by decide), fun _ => ⟨⟨T, n, q, z2⟩, fun x22 h23 u23 => ?_⟩⟩
        have G23 := mxK_G (mvC_K u23.1) G17
        have F23 := fr1_tr u17.1 (fr1_mv (by omega) u23.1)
        have O23 := Co_mv (by omega) u23.1 z3
        rcases u23.2 T n q z2 (by unfold isSg; decide) with ⟨y1, y2, y3, y4⟩ | ⟨y1, y2, y3⟩
        · have sg : sgn T n 60 q = true := decide_eq_true ⟨y1, y2⟩
          rw [if_pos sg] at ep
          refine ⟨fun c => absurd (y3.symm.trans c) (by decide), fun c => ?_⟩
          rw [if_neg c]
          exact cmp h23 a q 1011 G23 y4 y1 l2.2 O23 l1 F23 ep
        · have sg : ¬ sgn T n 60 q = true := fun w => y1 (sgn_in w)
          rw [if_neg sg] at ep
          subst y3
          refine ⟨fun c => ⟨⟨T, n, q, z2⟩, fun x41 h42 u42 => ?_⟩, fun c => absurd y2 c⟩
          rw [if_pos c]
          have G42 := mxK_G (mvC_K u42.1) G17
          have F42 := fr1_tr u17.1 (fr1_mv (by omega) u42.1)
          have O42 := Co_mv (by omega) u42.1 z3
          rcases u42.2 T n q z2 (by unfold isSg; decide) with ⟨x1, x2, x3, x4⟩ | ⟨x1, x2, x3⟩
          · have sg2 : sgn T n 62 q = true := decide_eq_true ⟨x1, x2⟩
            rw [if_pos sg2] at ep
            exact ⟨fun c => absurd (x3.symm.trans c) (by decide), fun _ => cmp h42 a q 1012 G42 x4 x1 l2.2 O42 l1 F42 ep⟩
          · have sg2 : ¬ sgn T n 62 q = true := fun w => x1 (sgn_in w)
            rw [if_neg sg2] at ep
            refine ⟨fun _ => fin _ _ F42 ?_, fun c => absurd x2 c⟩
            rw [ep, x3]
            exact ⟨rfl, q, z2, rfl⟩
theorem sp_35 {d b : Nat} {h : mxH} {Q : mxO → mxH → Prop} (G : mxG h) (hVb : (mxT b).1 = 3) (ok : ∃ a, atC h b a) (k : ∀ x h1, p35 b h x h1 → Q (.inl (some (.int x))) h1) : mx_wp (d + 3) 35 0 (mx_fr 35 [.ref 107, .ref 101, .ref b]) [] h Q := by
  refine all_mut (F := fr1 b h) (R := fun a x h1 => outC b a.1 a.2.1 a.2.2.2 (pPl a.1 a.2.1 a.2.2.1) x h1) ok (fun a pa => ?_) (fun x h1 f r => k x h1 ⟨f, fun T n p o C hp O hl => r (T, n, p, o) ⟨C, hp, O, hl⟩⟩)
  exact S35 G hVb pa.1 pa.2.1 pa.2.2.1 pa.2.2.2 (fun x h1 f r => ⟨x, rfl, f, r⟩)
/-! brackets are closed -/
def nN (K : List Int32) : Prop := ∀ o, clN K o = (K, o)
theorem nN_cl : ∀ (K o : List Int32), nN (clN K o).1 := by
  intro K
  induction K with
  | nil => intro o o'; rfl
  | cons x K ih =>
    intro o
    unfold clN
    split
    · exact ih _
    · rename_i h
      intro o'
      unfold clN
      rw [if_neg h]
theorem topS_cl {K : List Int32} (k : okK K) (h : nN K) (o : List Int32) : topS (clJ 1014 K o).1 := by
  match K, k, h with
  | [], k, h => exact .inl rfl
  | x :: K, k, h =>
    rcases k.2 with rfl | rfl | ⟨rfl, t⟩ | ⟨rfl, t⟩
    · exact .inr ⟨K, rfl⟩
    · have := h []
      have e : (clN (1009 :: K) []).1.length ≤ K.length := by
        have : ∀ (K o : List Int32), (clN K o).1.length ≤ K.length := by
          intro K
          induction K with
          | nil => intro o; exact Nat.le_refl _
          | cons x K ih =>
            intro o
            unfold clN
            split
            · have := ih (o ++ [1009]); simp; omega
            · exact Nat.le_refl _
        exact this K ([] ++ [1009])
      rw [this] at e
      have e : K.length + 1 ≤ K.length := e
      omega
    · show topS (clJ 1014 K (o ++ [1013])).1
      rcases t with t | ⟨L, rfl⟩
      · rw [topS_J t]; exact t
      · show topS (clJ 1014 L (o ++ [1013] ++ [1014])).1
        have k2 := k.1.2
        rcases k2 with e | e | ⟨e, -⟩ | ⟨-, t2⟩
        · exact absurd e (by decide)
        · exact absurd e (by decide)
        · exact absurd e (by decide)
        · rw [topS_J t2]; exact t2
    · show topS (clJ 1014 K (o ++ [1014])).1
      rw [topS_J t]; exact t
theorem topE_cl {K : List Int32} (k : okK K) (h : nN K) (o : List Int32) : topE (clJ 1013 K o).1 := by
  match K, k, h with
  | [], k, h => exact .inl (.inl rfl)
  | x :: K, k, h =>
    rcases k.2 with rfl | rfl | ⟨rfl, t⟩ | ⟨rfl, t⟩
    · exact .inl (.inr ⟨K, rfl⟩)
    · have := h []
      have e : (clN (1009 :: K) []).1.length ≤ K.length := by
        have : ∀ (K o : List Int32), (clN K o).1.length ≤ K.length := by
          intro K
          induction K with
          | nil => intro o; exact Nat.le_refl _
          | cons x K ih =>
            intro o
            unfold clN
            split
            · have := ih (o ++ [1009]); simp; omega
            · exact Nat.le_refl _
        exact this K ([] ++ [1009])
      rw [this] at e
      have e : K.length + 1 ≤ K.length := e
      omega
    · show topE (clJ 1013 K (o ++ [1013])).1
      rw [topE_J t]; exact t
    · exact .inr ⟨K, rfl⟩
theorem brK_clJ (c : Int32) : ∀ (K o : List Int32), brK (clJ c K o).1 = brK K := by
  intro K
  induction K with
  | nil => intro o; rfl
  | cons x K ih =>
    intro o
    unfold clJ
    split
    · rename_i e
      rw [ih]
      rcases e with rfl | ⟨rfl, -⟩ <;> rfl
    · rfl
/-- a bracket is taken off -/
theorem Sy_pop {h h14 h17 h20 : mxH} {b n p : Nat} {T : Nat → Int32} {K o : List Int32} (hb : 150 < b) (S : SyI h b T n p (0 :: K) o) (e14 : h14 = mx_wi h 107 1 (mx_i h 107 1 - 1)) (e17 : h17 = mx_wi h14 107 2 (mx_i h14 107 2 - 1)) (e20 : h20 = mx_wi h17 107 3 (mx_i h17 107 3 - 1)) : SyI h20 b T n p K o ∧ frL b h h20 := by
  have hl := SyI_len S
  obtain ⟨C, ⟨l1, l2, l3, l4⟩, O, k1, k2, hp, hz⟩ := S
  have ez : nz (0 :: K) = nz K := rfl
  have ed : dpK (0 :: K) = dpK K + 1 := rfl
  have eb : brK (0 :: K) = brK K + 1 := rfl
  have el : (0 :: K : List Int32).length = K.length + 1 := rfl
  subst e14 e17 e20
  refine ⟨⟨Cl_107 (Cl_107 (Cl_107 C)), ⟨?_, ?_, ?_, ?_⟩, ?_, k1.1, by omega, hp, by omega⟩, frL_tr (frL_tr (frL_107 hb) (frL_107 hb)) (frL_107 hb)⟩
  · rw [wi_nj (by decide), wi_nj (by decide), wi_at rfl rfl, l1, el, ← nI_1]; grind
  · rw [wi_nj (by decide), wi_at rfl rfl, wi_nj (by decide), l2, ed, ← nI_1]; grind
  · rw [wi_at rfl rfl, wi_nj (by decide), wi_nj (by decide), l3, eb, ← nI_1]; grind
  · rw [wi_ne (by decide), wi_ne (by decide), wi_ne (by decide)]; exact l4.2
  · unfold Co
    rw [wi_ne (by omega), wi_ne (by omega), wi_ne (by omega), wi_ne (by omega), wi_ne (by omega), wi_ne (by omega)]
    exact O
theorem SyI_mv {h h1 : mxH} {b n p q : Nat} {T : Nat → Int32} {K o : List Int32} (hb : 150 < b) (S : SyI h b T n p K o) (u : mvC h h1) (C : Cl h1 T n q) (hq : p ≤ q ∧ q ≤ n) : SyI h1 b T n q K o := by
  obtain ⟨-, ⟨l1, l2, l3, l4⟩, O, k1, k2, hp, hz⟩ := S
  refine ⟨C, ?_, Co_mv (by omega) u O, k1, k2, hq.2, by omega⟩
  obtain ⟨v, rfl⟩ := u
  unfold Lt
  rw [wi_ne (by decide), wi_ne (by decide)]
  exact ⟨l1, l2, l3, l4⟩
theorem brK_dp : ∀ (K : List Int32), brK K ≤ dpK K := by
  intro K
  induction K with
  | nil => exact Nat.le_refl _
  | cons x K ih =>
    show brK K + (if x = 0 then 1 else 0) ≤ dpK K + (if x = 0 ∨ x = 1009 then 1 else 0)
    by_cases z : x = 0
    · rw [if_pos z, if_pos (.inl z)]; omega
    · rw [if_neg z]; omega
def p41 (b : Nat) (h h1 : mxH) : Prop := frL b h h1 ∧ ∀ T n p K o, SyI h b T n p K o → nN K → SyI h1 b T n (clB T n (brK K) p K o).1 (clB T n (brK K) p K o).2.1 (clB T n (brK K) p K o).2.2 ∧ nN (clB T n (brK K) p K o).2.1
theorem H41 {d b n : Nat} {T : Nat → Int32} {h0 : mxH} {Q : mxO → mxH → Prop} (hVb : (mxT b).1 = 3) : ∀ (j : Nat) (K o : List Int32) (r p : Nat) (h : mxH), mxG h → SyI h b T n p K o → nN K → brK K = j → j + r ≤ 6 → frL b h0 h → (∀ h1, frL b h0 h1 → SyI h1 b T n (clB T n j p K o).1 (clB T n j p K o).2.1 (clB T n j p K o).2.2 → nN (clB T n j p K o).2.1 → Q (.inl none) h1) → H_41_2 (d + 2) h b (nI r) Q := by
  have hb := mxT3 hVb
  intro j
  induction j with
  | zero =>
    intro K o r p h G S N hj hr F k
    have k := k h F S N
    refine tr_41_2 G hVb ⟨fun _ => ⟨fun c => ?_, fun _ => k⟩, fun _ => k⟩
    rw [S.2.1.2.2.1, hj] at c
    exact absurd c (by decide)
  | succ j ih =>
    intro K o r p h G S N hj hr F k
    have C := S.1
    have hn := Cl_n C
    have gp := sk_ge (T := T) (n := n) p
    have hl := SyI_len S
    have hd6 := S.2.2.2.2.1
    have hbd := brK_dp K
    refine tr_41_2 G hVb ⟨fun _ => ⟨fun _ => ⟨⟨T, n, p, C⟩, fun x4 h5 u5 => ?_⟩, fun c => ?_⟩, fun c => absurd (show nI r < 6 from nI_lt (b := 6) (by omega) (by decide)) c⟩
    · rcases u5.2 T n p C (by unfold isSg; decide) with ⟨y1, y2, y3, y4⟩ | ⟨y1, y2, y3⟩
      · have sg : sgn T n 41 p = true := decide_eq_true ⟨y1, y2⟩
        have S5 := SyI_mv hb S u5.1 y4 ⟨by omega, by omega⟩
        refine ⟨fun c => absurd (y3.symm.trans c) (by decide), fun _ => ⟨⟨(T, n, sk T n p + 1, K, o), S5⟩, fun h11 u11 h14 e14 h17 e17 h20 e20 => ?_⟩⟩
        have S11 := u11.2 T n _ K o S5
        obtain ⟨L, eL⟩ : ∃ L, (clJ 1014 K o).1 = 0 :: L := by
          rcases topS_cl S.2.2.2.1 N o with z | z
          · have := brK_clJ 1014 K o
            rw [z, hj] at this
            exact absurd this (by show ¬ 0 = j + 1; omega)
          · exact z
        rw [eL] at S11
        obtain ⟨S20, F20⟩ := Sy_pop hb S11 e14 e17 e20
        have G5 := mxK_G (mvC_K u5.1) G
        have G11 := mxU_G u11.1.1 G5
        have G20 := mxU_G F20.1 G11
        refine ⟨⟨(T, n, sk T n p + 1, L, (clJ 1014 K o).2), S20⟩, fun h25 u25 => ?_⟩
        have S25 := u25.2 T n _ L _ S20
        have bL : brK L = j := by
          have := brK_clJ 1014 K o
          rw [eL, hj] at this
          have this : brK L + 1 = j + 1 := this
          omega
        have ec : clB T n (j + 1) p K o = clB T n j (sk T n p + 1) (clN L (clJ 1014 K o).2).1 (clN L (clJ 1014 K o).2).2 := by
          conv => lhs; unfold clB
          rw [if_pos sg, eL]
          rfl
        rw [ec] at k
        rw [nI_1]
        exact ih _ _ (r + 1) _ h25 (mxU_G u25.1.1 G20) S25 (nN_cl _ _) (by rw [brK_clN]; exact bL) (by omega) (frL_tr F (frL_tr (frL_mv hb u5.1) (frL_tr u11.1 (frL_tr F20 u25.1)))) k
      · have sg : ¬ sgn T n 41 p = true := fun w => y1 (sgn_in w)
        rw [clB_no sg] at k
        refine ⟨fun _ => ?_, fun c => absurd y2 c⟩
        rw [y3]
        exact k h F S N
    · rw [S.2.1.2.2.1, hj] at c
      exact absurd (nI_lt (a := 0) (by omega) (by omega)) c
theorem sp_41 {d b : Nat} {h : mxH} {Q : mxO → mxH → Prop} (G : mxG h) (hVb : (mxT b).1 = 3) (ok : ∃ a, atS h b a ∧ nN a.2.2.2.1) (k : ∀ h1, p41 b h h1 → Q (.inl none) h1) : mx_wp (d + 2) 41 0 (mx_fr 41 [.ref 107, .ref 101, .ref b]) [] h Q := by
  refine all_mv (F := frL b h) (R := fun a h1 => SyI h1 b a.1 a.2.1 (clB a.1 a.2.1 (brK a.2.2.2.1) a.2.2.1 a.2.2.2.1 a.2.2.2.2).1 (clB a.1 a.2.1 (brK a.2.2.2.1) a.2.2.1 a.2.2.2.1 a.2.2.2.2).2.1 (clB a.1 a.2.1 (brK a.2.2.2.1) a.2.2.1 a.2.2.2.1 a.2.2.2.2).2.2 ∧ nN (clB a.1 a.2.1 (brK a.2.2.2.1) a.2.2.1 a.2.2.2.1 a.2.2.2.2).2.1) ok (fun a pa => ?_) (fun h1 f r => k h1 ⟨f, fun T n p K o S N => r (T, n, p, K, o) ⟨S, N⟩⟩)
  exact tr_41_0 G hVb (H41 hVb _ _ _ 0 _ h G pa.1 pa.2 rfl (by have := pa.1.2.2.2.2.1; have := brK_dp a.2.2.2.1; omega) frL_rfl (fun h1 f r q => ⟨rfl, f, r, q⟩))
