/-! the class's way of reading comes to the same codes -/
section
variable {T : Nat → Int32} {n : Nat}
theorem brK_clN : ∀ (K o : List Int32), brK (clN K o).1 = brK K := by
  intro K
  induction K with
  | nil => intro o; rfl
  | cons x K ih =>
    intro o
    unfold clN
    split
    · rename_i e
      rw [ih]
      show _ = brK K + _
      rw [e, if_neg (by decide)]
      rfl
    · rfl
def topS (K : List Int32) : Prop := K = [] ∨ ∃ L, K = 0 :: L
def topE (K : List Int32) : Prop := topS K ∨ ∃ L, K = 1014 :: L
theorem topE_N {K : List Int32} (t : topE K) (o : List Int32) : clN K o = (K, o) := by
  rcases t with (rfl | ⟨L, rfl⟩) | ⟨L, rfl⟩ <;> rfl
theorem topE_J {K : List Int32} (t : topE K) (o : List Int32) : clJ 1013 K o = (K, o) := by
  rcases t with (rfl | ⟨L, rfl⟩) | ⟨L, rfl⟩ <;> rfl
theorem topS_J {K : List Int32} (t : topS K) (o : List Int32) : clJ 1014 K o = (K, o) := by
  rcases t with rfl | ⟨L, rfl⟩ <;> rfl
/-- what may wait when a row of ands has been read -/
def relE (K o s P o' : List Int32) : Prop := (P = K ∧ o' = o ++ s) ∨ (P = 1013 :: K ∧ o' ++ [1013] = o ++ s)
/-- the same for ors -/
def relS (K o s P o' : List Int32) : Prop := clJ 1014 P o' = (K, o ++ s) ∧ (∀ o'', clN P o'' = (P, o'')) ∧ brK P = brK K
theorem relE_N {K o s P o' : List Int32} (t : topE K) (r : relE K o s P o') (o'' : List Int32) : clN P o'' = (P, o'') := by
  rcases r with ⟨rfl, -⟩ | ⟨rfl, -⟩
  · exact topE_N t _
  · rfl
theorem relE_J {K o s P o' : List Int32} (t : topE K) (r : relE K o s P o') : clJ 1013 P o' = (K, o ++ s) := by
  rcases r with ⟨rfl, rfl⟩ | ⟨rfl, e⟩
  · exact topE_J t _
  · unfold clJ
    rw [if_pos (.inl rfl), e]
    exact topE_J t _
theorem relE_br {K o s P o' : List Int32} (r : relE K o s P o') : brK P = brK K := by
  rcases r with ⟨rfl, -⟩ | ⟨rfl, -⟩ <;> rfl
theorem relE_S {K o s P o' : List Int32} (t : topS K) (r : relE K o s P o') : relS K o s P o' := by
  refine ⟨?_, fun o'' => relE_N (.inl t) r o'', relE_br r⟩
  rcases r with ⟨rfl, rfl⟩ | ⟨rfl, e⟩
  · exact topS_J t _
  · unfold clJ
    rw [if_pos (.inl rfl), e]
    exact topS_J t _
theorem relE_S2 {K o s w P o' : List Int32} (t : topS K) (r : relE (1014 :: K) (o ++ s) w P o') : relS K o (s ++ w ++ [1014]) P o' := by
  have t2 : topE (1014 :: K) := .inr ⟨K, rfl⟩
  have e0 : clJ 1014 (1014 :: K) (o ++ s ++ w) = (K, o ++ (s ++ w ++ [1014])) := by
    unfold clJ
    rw [if_pos (.inr ⟨rfl, rfl⟩), topS_J t]
    simp
  refine ⟨?_, fun o'' => relE_N t2 r o'', (relE_br r).trans rfl⟩
  rcases r with ⟨rfl, rfl⟩ | ⟨rfl, e⟩
  · exact e0
  · unfold clJ
    rw [if_pos (.inl rfl), e]
    exact e0
theorem clB_no {j q : Nat} {K o : List Int32} (h : ¬ sgn T n 41 q = true) : clB T n j q K o = (q, K, o) := by
  cases j with
  | zero => rfl
  | succ j => unfold clB; rw [if_neg h]
theorem SX_and {k : Nat → List Int32 → List Int32 → Option PR} {q : Nat} {K o s P o' : List Int32} (t : topE K) (r : relE K o s P o') (w : wrd T n 15 q = true) : SX k T n q P o' = k (sk T n q + wl 15) (1013 :: K) (o ++ s) := by
  unfold SX
  rw [relE_N t r, clB_no (sgn_wrd (by decide) (by unfold isSg; decide) w)]
  unfold SXb
  rw [if_pos w, relE_J t r]
theorem SX_or {k : Nat → List Int32 → List Int32 → Option PR} {q : Nat} {K o s P o' : List Int32} (r : relS K o s P o') (w0 : ¬ wrd T n 15 q = true) (w : wrd T n 14 q = true) : SX k T n q P o' = k (sk T n q + wl 14) (1014 :: K) (o ++ s) := by
  unfold SX
  rw [r.2.1, clB_no (sgn_wrd (by decide) (by unfold isSg; decide) w)]
  unfold SXb
  rw [if_neg w0, if_pos w, r.1]
theorem SX_end {k : Nat → List Int32 → List Int32 → Option PR} {q : Nat} {K o s P o' : List Int32} (r : relS K o s P o') (hb : brK K = 0) (w0 : ¬ wrd T n 15 q = true) (w : ¬ wrd T n 14 q = true) : SX k T n q P o' = some (.inr (o ++ s, sk T n q)) := by
  unfold SX
  rw [r.2.1, r.2.2, hb]
  unfold clB SXb
  rw [if_neg w0, if_neg w, if_pos (by rw [r.2.2]; exact hb), r.1]
theorem SX_bad {k : Nat → List Int32 → List Int32 → Option PR} {q : Nat} {K o s P o' : List Int32} (r : relS K o s P o') (hb : ¬ brK K = 0) (c : ¬ sgn T n 41 q = true) (w0 : ¬ wrd T n 15 q = true) (w : ¬ wrd T n 14 q = true) : SX k T n q P o' = some (.inl (sk T n q)) := by
  unfold SX
  rw [r.2.1, clB_no c]
  unfold SXb
  rw [if_neg w0, if_neg w, if_neg (by rw [r.2.2]; exact hb)]
theorem SX_cls {k : Nat → List Int32 → List Int32 → Option PR} {q : Nat} {K o s P o' : List Int32} (r : relS (0 :: K) o s P o') (c : sgn T n 41 q = true) : SX k T n q P o' = SX k T n (sk T n q + 1) K (o ++ s) := by
  unfold SX
  rw [r.2.1, r.2.2, show brK (0 :: K) = brK K + 1 from rfl]
  conv => lhs; unfold clB
  rw [if_pos c, r.1, brK_clN]
  rfl
theorem SX_not {k : Nat → List Int32 → List Int32 → Option PR} {q : Nat} {K o : List Int32} : SX k T n q (1009 :: K) o = SX k T n q K (o ++ [1009]) := rfl
theorem opn_s (j p : Nat) (K : List Int32) : opn T n (j + 1) p K = if wrd T n 16 p = true then (if 6 ≤ dpK K then .inl (sk T n p) else opn T n j (sk T n p + wl 16) (1009 :: K)) else if sgn T n 40 p = true then (if 6 ≤ dpK K then .inl (sk T n p) else opn T n j (sk T n p + 1) (0 :: K)) else .inr (p, K) := rfl
theorem SY_s (f p : Nat) (K o : List Int32) : SY T n (f + 1) p K o = match opn T n (7 - dpK K) p K with
    | .inl e => some (.inl e)
    | .inr (p1, K1) => match pPl T n p1 with
      | .inl e => some (.inl e)
      | .inr (s, q) => SX (SY T n f) T n q K1 (o ++ s) := rfl
theorem SY_not {f p : Nat} {K o : List Int32} (w : wrd T n 16 p = true) (hd : dpK K < 6) : SY T n (f + 1) p K o = SY T n (f + 1) (sk T n p + wl 16) (1009 :: K) o := by
  have e : dpK (1009 :: K) = dpK K + 1 := rfl
  rw [SY_s, SY_s, e, show 7 - dpK K = (7 - (dpK K + 1)) + 1 by omega, opn_s, if_pos w, if_neg (by omega)]
theorem SY_brk {f p : Nat} {K o : List Int32} (w0 : ¬ wrd T n 16 p = true) (w : sgn T n 40 p = true) (hd : dpK K < 6) : SY T n (f + 1) p K o = SY T n (f + 1) (sk T n p + 1) (0 :: K) o := by
  have e : dpK (0 :: K) = dpK K + 1 := rfl
  rw [SY_s, SY_s, e, show 7 - dpK K = (7 - (dpK K + 1)) + 1 by omega, opn_s, if_neg w0, if_pos w, if_neg (by omega)]
theorem SY_deep {f p : Nat} {K o : List Int32} (w : wrd T n 16 p = true ∨ sgn T n 40 p = true) (hd : dpK K = 6) : SY T n (f + 1) p K o = some (.inl (sk T n p)) := by
  rw [SY_s, hd, show 7 - 6 = 0 + 1 from rfl, opn_s]
  by_cases w0 : wrd T n 16 p = true
  · rw [if_pos w0, if_pos (by omega)]
  · rw [if_neg w0, if_pos (w.resolve_left w0), if_pos (by omega)]
theorem SY_plain {f p : Nat} {K o : List Int32} (w0 : ¬ wrd T n 16 p = true) (w : ¬ sgn T n 40 p = true) (hd : dpK K ≤ 6) : SY T n (f + 1) p K o = match pPl T n p with
      | .inl e => some (.inl e)
      | .inr (s, q) => SX (SY T n f) T n q K (o ++ s) := by
  rw [SY_s, show 7 - dpK K = (7 - (dpK K + 1)) + 1 by omega, opn_s, if_neg w0, if_neg w]
theorem skk (p : Nat) : sk T n (sk T n p) = sk T n p := rn_idem p
theorem wrd_sk (k p : Nat) : wrd T n k (sk T n p) = wrd T n k p := by unfold wrd; rw [skk]
theorem sgn_sk (c : Int32) (p : Nat) : sgn T n c (sk T n p) = sgn T n c p := by unfold sgn; rw [skk]
theorem SX_sk {k : Nat → List Int32 → List Int32 → Option PR} {q : Nat} {K o : List Int32} : SX k T n (sk T n q) K o = SX k T n q K o := by
  have b : ∀ (j : Nat) (K o : List Int32), SXb k T n (clB T n j (sk T n q) K o) = SXb k T n (clB T n j q K o) := by
    intro j K o
    have z : SXb k T n (sk T n q, K, o) = SXb k T n (q, K, o) := by
      unfold SXb
      simp only [wrd_sk, skk]
    cases j with
    | zero => exact z
    | succ j =>
      by_cases c : sgn T n 41 q = true
      · have c' : sgn T n 41 (sk T n q) = true := by rw [sgn_sk]; exact c
        unfold clB
        rw [if_pos c, if_pos c', skk]
      · have c' : ¬ sgn T n 41 (sk T n q) = true := by rw [sgn_sk]; exact c
        rw [clB_no c, clB_no c']
        exact z
  exact b _ _ _
/-- what the class's way has come to when something has been read: codes s up to q, or a fault at e -/
def got (T : Nat → Int32) (n : Nat) (k0 : Nat) (L : Nat → Option PR) (p : Nat) (r : PR) (D : Nat → List Int32 → Nat → (Nat → Option PR) → Prop) : Prop := match r with
  | .inl e => ∃ k, k + p ≤ n ∧ ∀ f, L (f + k + k0) = some (.inl e)
  | .inr (s, q) => ∃ k, k + p + k0 ≤ q ∧ D q s k (fun f => L (f + k + k0))
def dAt (T : Nat → Int32) (n : Nat) (K o : List Int32) (q : Nat) (s : List Int32) (_ : Nat) (L : Nat → Option PR) : Prop := ∀ f, L f = SX (SY T n f) T n q K (o ++ s)
def dEv (T : Nat → Int32) (n : Nat) (K o : List Int32) (q : Nat) (s : List Int32) (_ : Nat) (L : Nat → Option PR) : Prop := ∃ P o', relE K o s P o' ∧ ¬ wrd T n 15 q = true ∧ ∀ f, L f = SX (SY T n f) T n q P o'
def dSo (T : Nat → Int32) (n : Nat) (K o : List Int32) (q : Nat) (s : List Int32) (_ : Nat) (L : Nat → Option PR) : Prop := sk T n q = q ∧ ∃ P o', relS K o s P o' ∧ ¬ wrd T n 15 q = true ∧ ¬ wrd T n 14 q = true ∧ ∀ f, L f = SX (SY T n f) T n q P o'
theorem got_inl {k0 p e : Nat} {L : Nat → Option PR} {D : Nat → List Int32 → Nat → (Nat → Option PR) → Prop} (hp : p ≤ n) (h : ∀ f, L (f + k0) = some (.inl e)) : got T n k0 L p (.inl e) D := ⟨0, by omega, fun f => h f⟩
theorem SY_pX (hn : n ≤ 400) : ∀ (g : Nat),
    (∀ dp s0 p K o r, pX T n g 0 dp s0 p = some r → dpK K = dp → dp ≤ 6 → p ≤ n → got T n 1 (fun f => SY T n f p K o) p r (dAt T n K o)) ∧
    (∀ dp s0 p K o r, pX T n g 1 dp s0 p = some r → dpK K = dp → dp ≤ 6 → p ≤ n → topE K → got T n 1 (fun f => SY T n f p K o) p r (dEv T n K o)) ∧
    (∀ dp s p K o r P o', pX T n g 2 dp s p = some r → dpK K = dp → dp ≤ 6 → p ≤ n → topE K → relE K o s P o' → got T n 0 (fun f => SX (SY T n f) T n p P o') p r (dEv T n K o)) ∧
    (∀ dp s0 p K o r, pX T n g 3 dp s0 p = some r → dpK K = dp → dp ≤ 6 → p ≤ n → topS K → got T n 1 (fun f => SY T n f p K o) p r (dSo T n K o)) ∧
    (∀ dp s p K o r P o', pX T n g 4 dp s p = some r → dpK K = dp → dp ≤ 6 → p ≤ n → topS K → relS K o s P o' → ¬ wrd T n 15 p = true → got T n 0 (fun f => SX (SY T n f) T n p P o') p r (dSo T n K o)) := by
  intro g
  induction g with
  | zero =>
    refine ⟨fun _ _ _ _ _ _ h => ?_, fun _ _ _ _ _ _ h => ?_, fun _ _ _ _ _ _ _ _ h => ?_, fun _ _ _ _ _ _ h => ?_, fun _ _ _ _ _ _ _ _ h => ?_⟩ <;> cases h
  | succ g ih =>
    obtain ⟨i0, i1, i2, i3, i4⟩ := ih
    refine ⟨fun dp s0 p K o r h hd hd6 hp => ?_, fun dp s0 p K o r h hd hd6 hp t => ?_, fun dp s p K o r P o' h hd hd6 hp t rel => ?_, fun dp s0 p K o r h hd hd6 hp t => ?_, fun dp s p K o r P o' h hd hd6 hp t rel hw => ?_⟩
    · have gp := sk_ge (T := T) (n := n) p
      unfold pX at h
      split at h
      · rename_i w
        have wi := wrd_in (by decide) w
        have w2 := wl_pos (k := 16) (by decide)
        split at h
        · rename_i e6
          cases h
          exact got_inl hp (fun f => SY_deep (.inl w) (by omega))
        · rcases bn_inr h with ⟨e, e1, e2⟩ | ⟨s1, q1, e1, e2⟩
          · subst e2
            obtain ⟨k, hk, hf⟩ := i0 _ _ _ (1009 :: K) o _ e1 (show dpK K + 1 = dp + 1 by omega) (by omega) (by omega)
            exact ⟨k, by omega, fun f => (SY_not w (by omega)).trans (hf f)⟩
          · cases e2
            obtain ⟨k, hk, hf⟩ := i0 _ _ _ (1009 :: K) o _ e1 (show dpK K + 1 = dp + 1 by omega) (by omega) (by omega)
            refine ⟨k, by omega, fun f => (SY_not w (by omega)).trans ((hf f).trans ?_)⟩
            rw [SX_not, List.append_assoc]
      · rename_i w0
        split at h
        · rename_i w
          have wi := sgn_in w
          split at h
          · cases h
            exact got_inl hp (fun f => SY_deep (.inr w) (by omega))
          · rcases bn_inr h with ⟨e, e1, e2⟩ | ⟨s1, q1, e1, e2⟩
            · subst e2
              obtain ⟨k, hk, hf⟩ := i3 _ _ _ (0 :: K) o _ e1 (show dpK K + 1 = dp + 1 by omega) (by omega) (by omega) (.inr ⟨K, rfl⟩)
              exact ⟨k, by omega, fun f => (SY_brk w0 w (by omega)).trans (hf f)⟩
            · obtain ⟨k, hk, -, P, o', rel, a1, a2, hf⟩ := i3 _ _ _ (0 :: K) o _ e1 (show dpK K + 1 = dp + 1 by omega) (by omega) (by omega) (.inr ⟨K, rfl⟩)
              have q1n := ((pX_pr hn _ _ _ _ _ _ _ (by omega) e1).2 (by omega)).2
              have gq := sk_ge (T := T) (n := n) q1
              split at e2
              · rename_i c
                cases e2
                exact ⟨k, by omega, fun f => (SY_brk w0 w (by omega)).trans ((hf f).trans (SX_cls rel c))⟩
              · rename_i c
                cases e2
                exact ⟨k, by omega, fun f => (SY_brk w0 w (by omega)).trans ((hf f).trans (SX_bad rel (by show ¬ brK K + 1 = 0; omega) c a1 a2))⟩
        · rename_i w
          have h := Option.some.inj h
          subst h
          have pl := fun f => SY_plain (f := f) (p := p) (K := K) (o := o) w0 w (by omega)
          generalize hr : pPl T n p = r at pl
          match r, hr with
          | .inl e, hr => exact got_inl hp (fun f => pl f)
          | .inr (s, q), hr =>
            have := pPl_pr hn hp hr
            exact ⟨0, by omega, fun f => pl f⟩
    · unfold pX at h
      rcases bn_inr h with ⟨e, e1, e2⟩ | ⟨s1, q1, e1, e2⟩
      · subst e2
        obtain ⟨k, hk, hf⟩ := i0 _ _ _ K o _ e1 hd hd6 hp
        exact ⟨k, hk, hf⟩
      · obtain ⟨k, hk, hf⟩ := i0 _ _ _ K o _ e1 hd hd6 hp
        have q1n := ((pX_pr hn _ _ _ _ _ _ _ hp e1).2 (by omega)).2
        have z := i2 _ _ _ K o _ K (o ++ s1) e2 hd hd6 q1n t (.inl ⟨rfl, rfl⟩)
        match r, z with
        | .inl e, z =>
          obtain ⟨k2, hk2, hf2⟩ := z
          exact ⟨k2 + k, by omega, fun f => by rw [show f + (k2 + k) + 1 = (f + k2 + 0) + k + 1 by omega]; exact (hf _).trans (hf2 f)⟩
        | .inr (s, q), z =>
          obtain ⟨k2, hk2, P2, o2, rel2, a1, hf2⟩ := z
          exact ⟨k2 + k, by omega, P2, o2, rel2, a1, fun f => by
            show SY T n (f + (k2 + k) + 1) p K o = _
            rw [show f + (k2 + k) + 1 = (f + k2 + 0) + k + 1 by omega]; exact (hf _).trans (hf2 f)⟩
    · have gp := sk_ge (T := T) (n := n) p
      unfold pX at h
      split at h
      · rename_i w
        have wi := wrd_in (by decide) w
        have w2 := wl_pos (k := 15) (by decide)
        have st : ∀ f, SX (SY T n f) T n p P o' = SY T n f (sk T n p + wl 15) (1013 :: K) (o ++ s) := fun f => SX_and t rel w
        rcases bn_inr h with ⟨e, e1, e2⟩ | ⟨s1, q1, e1, e2⟩
        · subst e2
          obtain ⟨k, hk, hf⟩ := i0 _ _ _ (1013 :: K) (o ++ s) _ e1 hd hd6 (by omega)
          exact ⟨k + 1, by omega, fun f => (st _).trans (hf f)⟩
        · obtain ⟨k, hk, hf⟩ := i0 _ _ _ (1013 :: K) (o ++ s) _ e1 hd hd6 (by omega)
          have q1n := ((pX_pr hn _ _ _ _ _ _ _ (by omega) e1).2 (by omega)).2
          have z := i2 _ _ _ K o _ (1013 :: K) (o ++ s ++ s1) e2 hd hd6 q1n t (.inr ⟨rfl, by simp⟩)
          match r, z with
          | .inl e, z =>
            obtain ⟨k2, hk2, hf2⟩ := z
            exact ⟨k2 + k + 1, by omega, fun f => by rw [show f + (k2 + k + 1) + 0 = (f + k2 + 0) + k + 1 by omega]; exact (st _).trans ((hf _).trans (hf2 f))⟩
          | .inr (s3, q3), z =>
            obtain ⟨k2, hk2, P2, o2, rel2, a1, hf2⟩ := z
            exact ⟨k2 + k + 1, by omega, P2, o2, rel2, a1, fun f => by
              show SX (SY T n (f + (k2 + k + 1) + 0)) T n p P o' = _
              rw [show f + (k2 + k + 1) + 0 = (f + k2 + 0) + k + 1 by omega]; exact (st _).trans ((hf _).trans (hf2 f))⟩
      · rename_i w
        cases h
        exact ⟨0, by omega, P, o', rel, by rw [wrd_sk]; exact w, fun f => SX_sk.symm⟩
    · unfold pX at h
      rcases bn_inr h with ⟨e, e1, e2⟩ | ⟨s1, q1, e1, e2⟩
      · subst e2
        obtain ⟨k, hk, hf⟩ := i1 _ _ _ K o _ e1 hd hd6 hp (.inl t)
        exact ⟨k, hk, hf⟩
      · obtain ⟨k, hk, P, o', rel, a1, hf⟩ := i1 _ _ _ K o _ e1 hd hd6 hp (.inl t)
        have q1n := ((pX_pr hn _ _ _ _ _ _ _ hp e1).2 (by omega)).2
        have z := i4 _ _ _ K o _ P o' e2 hd hd6 q1n t (relE_S t rel) a1
        match r, z with
        | .inl e, z =>
          obtain ⟨k2, hk2, hf2⟩ := z
          exact ⟨k2 + k, by omega, fun f => by rw [show f + (k2 + k) + 1 = (f + k2 + 0) + k + 1 by omega]; exact (hf _).trans (hf2 f)⟩
        | .inr (s, q), z =>
          obtain ⟨k2, hk2, sq, P2, o2, rel2, b1, b2, hf2⟩ := z
          exact ⟨k2 + k, by omega, sq, P2, o2, rel2, b1, b2, fun f => by
            show SY T n (f + (k2 + k) + 1) p K o = _
            rw [show f + (k2 + k) + 1 = (f + k2 + 0) + k + 1 by omega]; exact (hf _).trans (hf2 f)⟩
    · have gp := sk_ge (T := T) (n := n) p
      unfold pX at h
      split at h
      · rename_i w
        have wi := wrd_in (by decide) w
        have w2 := wl_pos (k := 14) (by decide)
        have st : ∀ f, SX (SY T n f) T n p P o' = SY T n f (sk T n p + wl 14) (1014 :: K) (o ++ s) := fun f => SX_or rel hw w
        rcases bn_inr h with ⟨e, e1, e2⟩ | ⟨s1, q1, e1, e2⟩
        · subst e2
          obtain ⟨k, hk, hf⟩ := i1 _ _ _ (1014 :: K) (o ++ s) _ e1 hd hd6 (by omega) (.inr ⟨K, rfl⟩)
          exact ⟨k + 1, by omega, fun f => (st _).trans (hf f)⟩
        · obtain ⟨k, hk, P1, o1, rel1, a1, hf⟩ := i1 _ _ _ (1014 :: K) (o ++ s) _ e1 hd hd6 (by omega) (.inr ⟨K, rfl⟩)
          have q1n := ((pX_pr hn _ _ _ _ _ _ _ (by omega) e1).2 (by omega)).2
          have z := i4 _ _ _ K o _ P1 o1 e2 hd hd6 q1n t (relE_S2 t rel1) a1
          match r, z with
          | .inl e, z =>
            obtain ⟨k2, hk2, hf2⟩ := z
            exact ⟨k2 + k + 1, by omega, fun f => by rw [show f + (k2 + k + 1) + 0 = (f + k2 + 0) + k + 1 by omega]; exact (st _).trans ((hf _).trans (hf2 f))⟩
          | .inr (s3, q3), z =>
            obtain ⟨k2, hk2, sq, P2, o2, rel2, b1, b2, hf2⟩ := z
            exact ⟨k2 + k + 1, by omega, sq, P2, o2, rel2, b1, b2, fun f => by
              show SX (SY T n (f + (k2 + k + 1) + 0)) T n p P o' = _
              rw [show f + (k2 + k + 1) + 0 = (f + k2 + 0) + k + 1 by omega]; exact (st _).trans ((hf _).trans (hf2 f))⟩
      · rename_i w
        cases h
        exact ⟨0, by omega, skk _, P, o', rel, by rw [wrd_sk]; exact hw, by rw [wrd_sk]; exact w, fun f => SX_sk.symm⟩
/-- a condition from p on -/
def cnd (T : Nat → Int32) (n p : Nat) : PR := (pX T n 1300 3 0 [] p).getD (.inl 0)
theorem cnd_x (hn : n ≤ 400) {p : Nat} (hp : p ≤ n) : pX T n 1300 3 0 [] p = some (cnd T n p) := by
  obtain ⟨r, hr⟩ := pX_tot (T := T) hn 1300 3 0 [] p hp (by omega) (by rw [if_neg (by decide), if_neg (by decide), if_neg (by decide)]; omega)
  unfold cnd
  rw [hr]; rfl
theorem cnd_SY (hn : n ≤ 400) {p : Nat} (hp : p ≤ n) (h1 : 1 ≤ p) (o : List Int32) : SY T n 400 p [] o = some (match cnd T n p with
    | .inl e => .inl e
    | .inr (s, q) => .inr (o ++ s, q)) := by
  have z := (SY_pX (T := T) hn 1300).2.2.2.1 0 [] p [] o _ (cnd_x hn hp) rfl (by omega) hp (.inl rfl)
  have x := cnd_x (T := T) hn hp
  match hc : cnd T n p, z with
  | .inl e, z =>
    obtain ⟨k, hk, hf⟩ := z
    have := hf (400 - k - 1)
    rw [show 400 - k - 1 + k + 1 = 400 by omega] at this
    exact this
  | .inr (s, q), z =>
    rw [hc] at x
    have q1n := ((pX_pr hn _ _ _ _ _ _ _ hp x).2 (by omega)).2
    obtain ⟨k, hk, sq, P, o', rel, b1, b2, hf⟩ := z
    have := hf (400 - k - 1)
    rw [SX_end rel rfl b1 b2, sq] at this
    have this : SY T n (400 - k - 1 + k + 1) p [] o = _ := this
    rw [show 400 - k - 1 + k + 1 = 400 by omega] at this
    exact this
end
