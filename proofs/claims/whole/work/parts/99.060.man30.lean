/-! SPECS by hand, 30: lines of the valley: the class's line; persons, stones, told numbers of the reference -/
def vPe0 (T : Nat → Int32) (n : Nat) (r : Nat → Int32) (np ns p0 : Nat) : VR := bnd (nb T n 0 999 p0) (fun x1 => bnd (bnd (wd T n 21 x1.2) (fun q => nb T n 1 60 q)) (fun x3 => bnd (bnd (wd T n 2 x3.2) (fun q => nb T n 0 11 q)) (fun x5 => if wrd T n 1 x5.2 = true then bnd (nb T n 0 11 (sk T n x5.2 + wl 1)) (fun x6 => .inr (perR r np x1.1 x3.1 x5.1 x6.1, np + 1, ns, x6.2)) else .inr (perR r np x1.1 x3.1 x5.1 x5.1, np + 1, ns, x5.2))))
def vSt0 (T : Nat → Int32) (n : Nat) (r : Nat → Int32) (np ns p0 : Nat) : VR := bnd (nb T n 1 40 p0) (fun x1 => bnd (bnd (wd T n 4 x1.2) (fun q => nb T n 0 (nI np - 1) q)) (fun x3 => bnd (bnd (wd T n 5 x3.2) (fun q => nbx T n np x3.1 q)) (fun x5 => if wrd T n 6 x5.2 = true then bnd (bnd (wd T n 7 (sk T n x5.2 + wl 6)) (fun q => nbx T n np x5.1 q)) (fun x7 => .inr (stoR r ns x3.1 x5.1 x1.1 x7.1, np, ns + 1, x7.2)) else .inr (stoR r ns x3.1 x5.1 x1.1 x3.1, np, ns + 1, x5.2))))
theorem bnd_as {α β γ : Type} {x : Sum Nat α} {f : α → Sum Nat β} {g : β → Sum Nat γ} : bnd (bnd x f) g = bnd x (fun a => bnd (f a) g) := by
  cases x <;> rfl
theorem bnd_c {α β : Type} {x : Sum Nat α} {f g : α → Sum Nat β} (h : ∀ a, f a = g a) : bnd x f = bnd x g := by
  cases x with
  | inl e => rfl
  | inr a => exact h a
theorem vPer_e {T : Nat → Int32} {n : Nat} {r : Nat → Int32} {np ns p : Nat} : vPer T n r np ns p = bnd (wd T n 0 p) (fun p0 => vPe0 T n r np ns p0) := by
  unfold vPer vPe0
  simp only [bnd_as]
theorem nbx_m1 {T : Nat → Int32} {n np p : Nat} : nbx T n np (-1) p = nb T n 0 (nI np - 1) p := by
  unfold nbx
  match e : nb T n 0 (nI np - 1) p with
  | .inl e' => rfl
  | .inr (v, q) =>
    show (if v = -1 then _ else _) = _
    rw [if_neg]
    intro c
    unfold nb at e
    split at e
    · rename_i z
      cases e
      exact z.2.2.1 (by rw [c]; decide)
    · cases e
theorem vSto_e {T : Nat → Int32} {n : Nat} {r : Nat → Int32} {np ns p : Nat} : vSto T n r np ns p = bnd (wd T n 3 p) (fun p0 => vSt0 T n r np ns p0) := by
  unfold vSto vSt0
  simp only [bnd_as, nbx_m1]
def vLn (T : Nat → Int32) (n : Nat) (r : Nat → Int32) (np ns p : Nat) : VR :=
  if wrd T n 0 p = true then (if np = 6 then .inl (sk T n p) else vPer T n r np ns p)
  else if wrd T n 3 p = true then (if ns = 10 then .inl (sk T n p) else vSto T n r np ns p)
  else if wrd T n 23 p = true then vSlo T n r np ns (sk T n p + wl 23)
  else if wrd T n 8 p = true then vPor T n r np ns (sk T n p + wl 8)
  else if wrd T n 9 p = true then vLim T n r np ns (sk T n p + wl 9)
  else if wrd T n 25 p = true then vHou T n r np ns (sk T n p + wl 25)
  else .inl (sk T n p)
theorem sp_123 {d : Nat} {h : mxH} {Q : mxO → mxH → Prop} {a : Nat} (G : mxG h) (hVa : (mxT a).1 = 9) (ok : okV h a) (k : ∀ x h1, pV vLn a h x h1 → Q (.inl (some (.int x))) h1) : mx_wp (d + 4) 123 0 (mx_fr 123 [.ref 101, .ref a]) [] h Q := by
  have ga := va_gt hVa
  refine pV_of ok k (fun T n p r np ns nl C hp V Q fin => ?_)
  have hn := Cl_n C
  obtain ⟨t, b, s, ht, e3, eb, es, hb, hs, hbs, hw⟩ := Cl_ok C
  have hw' : mx_r h 106 (mx_i h 101 3).toNatClampNeg = 0 ∨ (3 ≤ mx_r h 106 (mx_i h 101 3).toNatClampNeg ∧ mx_r h 106 (mx_i h 101 3).toNatClampNeg < 29) := by
    rw [e3, nI_clamp (by omega)]; exact hw
  have x01 : ∀ {res : VR} {x : Int32} {h1 : mxH}, outV a T n nl res x h1 → (x = 0 ∨ x = 1) := by
    intro res x h1 o
    match res, o with
    | .inl e, o => exact .inl o.1
    | .inr (r', np', ns', q), o => exact .inr o.1
  have if01 : ∀ {res : VR} {x v : Int32} {h1 : mxH}, outV a T n nl res x h1 → v = (if x = 0 then 0 else 1) → v = x := by
    intro res x v h1 o e
    rcases x01 o with q | q <;> rw [e, q] <;> rfl
  unfold vLn at fin
  refine tr_123_0 G hVa ⟨by rw [e3]; exact vp_in_nI ht (by decide), ⟨⟨hw', .inr (by omega)⟩, trivial⟩, ?_⟩
  rw [V95_i C (k := 0) (by decide)]
  by_cases w0 : wrd T n 0 p = true
  · rw [if_pos (show isW T n 0 (sk T n p) = true from w0)]
    rw [if_pos w0] at fin
    refine ⟨fun c => absurd c (by decide), fun _ => ?_⟩
    rw [C_p V]
    have h6 := C_np6 V
    refine ⟨fun c => ?_, fun c => ?_⟩
    · have n6 : np < 6 := (nI_ltI (b := 6) (by omega) (by decide)).mp c
      rw [if_neg (by omega)] at fin
      refine ⟨⟨(T, n, p, r, np, ns, nl), ⟨C, hp, V⟩, w0, n6⟩, fun x69 h70 u70 v73 e73 => ?_⟩
      have o := u70.2 T n p r np ns nl C hp V ⟨w0, n6⟩
      rw [if01 o e73]
      exact fin _ _ u70.1 o
    · have n6 : np = 6 := by
        rcases Nat.lt_or_ge np 6 with q | q
        · exact absurd (show nI np < 6 from nI_lt (b := 6) q (by decide)) c
        · omega
      rw [if_pos n6] at fin
      exact fin _ _ frV_rfl ⟨rfl, p, C, rfl⟩
  · rw [if_neg (show ¬ isW T n 0 (sk T n p) = true from w0)]
    rw [if_neg w0] at fin
    refine ⟨fun _ => ⟨⟨⟨hw', .inr (by omega)⟩, trivial⟩, ?_⟩, fun c => absurd rfl c⟩
    rw [V95_i C (k := 3) (by decide)]
    by_cases w3 : wrd T n 3 p = true
    · rw [if_pos (show isW T n 3 (sk T n p) = true from w3)]
      rw [if_pos w3] at fin
      refine ⟨fun c => absurd c (by decide), fun _ => ?_⟩
      unfold V_67
      rw [C_s V]
      have h10 := C_ns10 V
      refine ⟨fun c => ?_, fun c => ?_⟩
      · have n10 : ns < 10 := by
          rcases Nat.lt_or_ge ns 10 with q | q
          · exact q
          · rw [if_neg (show ¬ nI ns < 10 from fun z => absurd ((nI_ltI (b := 10) (by omega) (by decide)).mp z) (by omega))] at c
            exact absurd c (by decide)
        rw [if_neg (by omega)] at fin
        refine ⟨⟨(T, n, p, r, np, ns, nl), ⟨C, hp, V⟩, w3, n10⟩, fun x61 h62 u62 v65 e65 => ?_⟩
        have o := u62.2 T n p r np ns nl C hp V ⟨w3, n10⟩
        rw [if01 o e65]
        exact fin _ _ u62.1 o
      · have n10 : ns = 10 := by
          rcases Nat.lt_or_ge ns 10 with q | q
          · rw [if_pos (show nI ns < 10 from nI_lt (b := 10) q (by decide))] at c
            exact absurd rfl c
          · omega
        rw [if_pos n10] at fin
        exact fin _ _ frV_rfl ⟨rfl, p, C, rfl⟩
    · rw [if_neg (show ¬ isW T n 3 (sk T n p) = true from w3)]
      rw [if_neg w3] at fin
      refine ⟨fun _ => ⟨⟨T, n, p, C⟩, by omega, fun x8 h9 u9 => ?_⟩, fun c => absurd rfl c⟩
      have sub : ∀ (f : (Nat → Int32) → Nat → (Nat → Int32) → Nat → Nat → Nat → VR) (h' : mxH) (q : Nat), mvC h h' → Cl h' T n q → q ≤ n → (∀ x h1, frV a h h1 → outV a T n nl (f T n r np ns q) x h1 → Q (.inl (some (.int x))) h1) → okV h' a ∧ (∀ (x : Int32) (h1 : mxH), pV f a h' x h1 → ((x = 0 ∨ x = 1) ∧ Q (.inl (some (.int x))) h1)) := by
        intro f h' q u C' hq fin'
        have V' := CpN_mv (by omega) u V
        refine ⟨⟨(T, n, q, r, np, ns, nl), C', hq, V'⟩, fun x h1 uu => ?_⟩
        have o := uu.2 T n q r np ns nl C' hq V'
        exact ⟨x01 o, fin' _ _ (frV_tr (frV_mv u) uu.1) o⟩
      rcases C_wd (k := 23) (by decide) u9 C with ⟨q1, e1, w1, ne1, eq1, C9⟩ | ⟨e1, w1, ex1, eh1⟩
      · rw [if_pos w1, ← eq1] at fin
        exact ⟨fun c => absurd c ne1, fun _ => sub _ _ _ u9.1 C9 (wd_pr (by decide) e1).2 fin⟩
      · rw [if_neg w1] at fin
        rw [eh1]
        refine ⟨fun _ => ⟨⟨T, n, p, C⟩, by omega, fun x15 h16 u16 => ?_⟩, fun c => absurd ex1 c⟩
        rcases C_wd (k := 8) (by decide) u16 C with ⟨q2, e2, w2, ne2, eq2, C16⟩ | ⟨e2, w2, ex2, eh2⟩
        · rw [if_pos w2, ← eq2] at fin
          exact ⟨fun c => absurd c ne2, fun _ => sub _ _ _ u16.1 C16 (wd_pr (by decide) e2).2 fin⟩
        · rw [if_neg w2] at fin
          rw [eh2]
          refine ⟨fun _ => ⟨⟨T, n, p, C⟩, by omega, fun x22 h23 u23 => ?_⟩, fun c => absurd ex2 c⟩
          rcases C_wd (k := 9) (by decide) u23 C with ⟨q3, e3', w3', ne3, eq3, C23⟩ | ⟨e3', w3', ex3, eh3⟩
          · rw [if_pos w3', ← eq3] at fin
            exact ⟨fun c => absurd c ne3, fun _ => sub _ _ _ u23.1 C23 (wd_pr (by decide) e3').2 fin⟩
          · rw [if_neg w3'] at fin
            rw [eh3]
            refine ⟨fun _ => ⟨⟨T, n, p, C⟩, by omega, fun x29 h30 u30 => ?_⟩, fun c => absurd ex3 c⟩
            rcases C_wd (k := 25) (by decide) u30 C with ⟨q4, e4, w4, ne4, eq4, C30⟩ | ⟨e4, w4, ex4, eh4⟩
            · rw [if_pos w4, ← eq4] at fin
              obtain ⟨z1, z2⟩ := sub _ _ _ u30.1 C30 (wd_pr (by decide) e4).2 fin
              refine ⟨fun c => absurd c ne4, fun _ => ⟨z1, fun x35 h36 u36 v39 e39 => ?_⟩⟩
              have y := z2 x35 h36 u36
              have : v39 = x35 := by rcases y.1 with q | q <;> rw [e39, q] <;> rfl
              rw [this]
              exact y.2
            · rw [if_neg w4] at fin
              rw [eh4]
              exact ⟨fun _ => fin _ _ frV_rfl ⟨rfl, p, C, rfl⟩, fun c => absurd ex4 c⟩
/-! the reference -/
def outM (h : mxH) (T : Nat → Int32) (n : Nat) (res : VR) (h1 : mxH) : Prop := match res with
  | .inl e => bad h n e h1
  | .inr (r', _, _, q) => mxK h h1 ∧ (∀ b, b ≠ 381 → b ≠ 382 → mx_i h1 b = mx_i h b) ∧ mx_i h1 382 = r' ∧ (∀ k, k ≠ 11 → mx_i h1 381 k = mx_i h 381 k) ∧ ∃ q', q' ≤ n ∧ sk T n q' = sk T n q ∧ mx_i h1 381 11 = nI q'
def frM (h h1 : mxH) : Prop := mxK h h1 ∧ (∀ b, b ≠ 381 → b ≠ 382 → mx_i h1 b = mx_i h b) ∧ ∀ k, k ≠ 11 → k ≠ 12 → mx_i h1 381 k = mx_i h 381 k
theorem frM_rfl {h : mxH} : frM h h := ⟨mxK_rfl, fun _ _ _ => rfl, fun _ _ _ => rfl⟩
theorem frM_tr {h h1 h2 : mxH} (u : frM h h1) (w : frM h1 h2) : frM h h2 := ⟨mxK_tr u.1 w.1, fun b a c => (w.2.1 b a c).trans (u.2.1 b a c), fun k a c => (w.2.2 k a c).trans (u.2.2 k a c)⟩
theorem frM_at {h : mxH} {v : Int32} : frM h (mx_wi h 381 11 v) := ⟨mxK_wi, fun b a _ => wi_ne a, fun k a _ => wi_nj a⟩
theorem frM_bad {h h1 : mxH} {n e : Nat} (b : bad h n e h1) : frM h h1 := by
  obtain ⟨q, -, rfl⟩ := b
  exact ⟨mxK_tr mxK_wi mxK_wi, fun b a _ => by rw [wi_ne a, wi_ne a], fun k a c => by rw [wi_nj c, wi_nj a]⟩
theorem outM_fr {h h1 : mxH} {T : Nat → Int32} {n : Nat} {res : VR} (o : outM h T n res h1) : frM h h1 := by
  match res, o with
  | .inl e, o => exact frM_bad o
  | .inr (r', np', ns', q), o => exact ⟨o.1, o.2.1, fun k a _ => o.2.2.2.1 k a⟩
/-- from a place a little further on -/
theorem outM_at {h h1 : mxH} {T : Nat → Int32} {n q : Nat} {res : VR} (o : outM (mx_wi h 381 11 (nI q)) T n res h1) : outM h T n res h1 := by
  match res, o with
  | .inl e, o => exact bad_at o
  | .inr (r', np', ns', q'), o =>
    obtain ⟨o1, o2, o3, o4, o5⟩ := o
    exact ⟨mxK_tr mxK_wi o1, fun b a c => by rw [o2 b a c, wi_ne a], o3, fun k a => by rw [o4 k a, wi_nj a], o5⟩
theorem t217 {h : mxH} {Q : mxO → mxH → Prop} {np : Nat} {a b c g : Int32} (e : mx_i h 382 3 = nI np) (h6 : np < 6) (fin : ∀ hF, mxK h hF → (∀ b, b ≠ 382 → mx_i hF b = mx_i h b) → mx_i hF 382 = perR (mx_i h 382) np a b c g → Q (.inl none) hF) : (vp_in ((33 + (6 * (mx_i h 382 3))) + (0 : Int32)) 769 ∧ (∀ h199, h199 = W_197 h (mx_i h 382 3) (0 : Int32) a → (vp_in ((33 + (6 * (mx_i h 382 3))) + (1 : Int32)) 769 ∧ (∀ h204, h204 = W_197 h199 (mx_i h 382 3) (1 : Int32) b → (vp_in ((33 + (6 * (mx_i h 382 3))) + (2 : Int32)) 769 ∧ (∀ h209, h209 = W_197 h204 (mx_i h 382 3) (2 : Int32) c → (vp_in ((33 + (6 * (mx_i h 382 3))) + (3 : Int32)) 769 ∧ (∀ h214, h214 = W_197 h209 (mx_i h 382 3) (3 : Int32) g → (vp_in ((33 + (6 * (mx_i h 382 3))) + (4 : Int32)) 769 ∧ (∀ h219, h219 = W_197 h214 (mx_i h 382 3) (4 : Int32) (0 : Int32) → (vp_in ((33 + (6 * (mx_i h 382 3))) + (5 : Int32)) 769 ∧ (∀ h224, h224 = W_197 h219 (mx_i h 382 3) (5 : Int32) (0 : Int32) → (∀ h228, h228 = mx_wi h224 382 3 ((mx_i h224 382 3) + 1) → Q (.inl none) h228))))))))))))) := by
  rw [e]
  have x100 : np < 100 := by omega
  refine ⟨vpU (by omega), fun h1 e1 => ⟨vpU (by omega), fun h2 e2 => ⟨vpU (by omega), fun h3 e3 => ⟨vpU (by omega), fun h4 e4 => ⟨vpU (by omega), fun h5 e5 => ⟨vpU (by omega), fun h6 e6 h7 e7 => ?_⟩⟩⟩⟩⟩⟩
  rw [show (0 : Int32) = nI 0 from rfl, W197_e x100 0 (by decide)] at e1
  rw [show (1 : Int32) = nI 1 from rfl, W197_e x100 1 (by decide)] at e2
  rw [show (2 : Int32) = nI 2 from rfl, W197_e x100 2 (by decide)] at e3
  rw [show (3 : Int32) = nI 3 from rfl, W197_e x100 3 (by decide)] at e4
  rw [show (4 : Int32) = nI 4 from rfl, W197_e x100 4 (by decide)] at e5
  rw [show (5 : Int32) = nI 5 from rfl, W197_e x100 5 (by decide)] at e6
  have m6 : mx_i h6 382 3 = nI np := by
    rw [e6, wi_nj (by omega), e5, wi_nj (by omega), e4, wi_nj (by omega), e3, wi_nj (by omega), e2, wi_nj (by omega), e1, wi_nj (by omega)]; exact e
  rw [m6, nI_1] at e7
  refine fin h7 ?_ (fun b hb => ?_) ?_
  · rw [e7, e6, e5, e4, e3, e2, e1]
    exact mxK_tr (mxK_tr (mxK_tr (mxK_tr (mxK_tr (mxK_tr mxK_wi mxK_wi) mxK_wi) mxK_wi) mxK_wi) mxK_wi) mxK_wi
  · rw [e7, wi_ne hb, e6, wi_ne hb, e5, wi_ne hb, e4, wi_ne hb, e3, wi_ne hb, e2, wi_ne hb, e1, wi_ne hb]
  · rw [e7, m_wi, e6, m_wi, e5, m_wi, e4, m_wi, e3, m_wi, e2, m_wi, e1, m_wi]; rfl
theorem t219 {h : mxH} {Q : mxO → mxH → Prop} {ns : Nat} {dd l w b : Int32} (e : mx_i h 382 4 = nI ns) (h10 : ns < 10) (fin : ∀ hF, mxK h hF → (∀ b, b ≠ 382 → mx_i hF b = mx_i h b) → mx_i hF 382 = stoR (mx_i h 382) ns dd l w b → Q (.inl none) hF) : (vp_in ((69 + (6 * (mx_i h 382 4))) + (0 : Int32)) 769 ∧ vp_in ((69 + (6 * (mx_i h 382 4))) + (1 : Int32)) 769 ∧ vp_in ((69 + (6 * (mx_i h 382 4))) + (2 : Int32)) 769 ∧ vp_in ((69 + (6 * (mx_i h 382 4))) + (3 : Int32)) 769 ∧ vp_in ((69 + (6 * (mx_i h 382 4))) + (4 : Int32)) 769 ∧ vp_in ((69 + (6 * (mx_i h 382 4))) + (5 : Int32)) 769 ∧ (∀ h46, h46 = W_220 h dd l w b → Q (.inl none) h46)) := by
  have x100 : ns < 100 := by omega
  have eW : W_220 h dd l w b = mx_wi (mx_wi (mx_wi (mx_wi (mx_wi (mx_wi (mx_wi h 382 (69 + 6 * ns + 0) dd) 382 (69 + 6 * ns + 1) l) 382 (69 + 6 * ns + 2) w) 382 (69 + 6 * ns + 3) 0) 382 (69 + 6 * ns + 4) b) 382 (69 + 6 * ns + 5) 0) 382 4 (nI (ns + 1)) := by
    unfold W_220
    rw [e]
    have q : W_199 (W_199 (W_199 (W_199 (W_199 (W_199 h (nI ns) 0 dd) (nI ns) 1 l) (nI ns) 2 w) (nI ns) 3 0) (nI ns) 4 b) (nI ns) 5 0 = mx_wi (mx_wi (mx_wi (mx_wi (mx_wi (mx_wi h 382 (69 + 6 * ns + 0) dd) 382 (69 + 6 * ns + 1) l) 382 (69 + 6 * ns + 2) w) 382 (69 + 6 * ns + 3) 0) 382 (69 + 6 * ns + 4) b) 382 (69 + 6 * ns + 5) 0 := by
      have f : ∀ (h : mxH) (k : Nat) (hk : k < 100) (v : Int32), W_199 h (nI ns) (nI k) v = mx_wi h 382 (69 + 6 * ns + k) v := fun h k hk v => W199_e x100 k hk
      have f0 := fun h v => f h 0 (by decide) v
      have f1 := fun h v => f h 1 (by decide) v
      have f2 := fun h v => f h 2 (by decide) v
      have f3 := fun h v => f h 3 (by decide) v
      have f4 := fun h v => f h 4 (by decide) v
      have f5 := fun h v => f h 5 (by decide) v
      rw [show W_199 h (nI ns) 0 dd = _ from f0 h dd, show ∀ h v, W_199 h (nI ns) 1 v = _ from f1, show ∀ h v, W_199 h (nI ns) 2 v = _ from f2, show ∀ h v, W_199 h (nI ns) 3 v = _ from f3, show ∀ h v, W_199 h (nI ns) 4 v = _ from f4, show ∀ h v, W_199 h (nI ns) 5 v = _ from f5]
    rw [q]
    congr 1
    rw [wi_nj (by omega), wi_nj (by omega), wi_nj (by omega), wi_nj (by omega), wi_nj (by omega), wi_nj (by omega), e, nI_1]
  rw [e]
  refine ⟨vpS (by omega), vpS (by omega), vpS (by omega), vpS (by omega), vpS (by omega), vpS (by omega), fun h46 e46 => ?_⟩
  rw [eW] at e46
  refine fin h46 ?_ (fun b hb => ?_) ?_
  · rw [e46]
    exact mxK_tr (mxK_tr (mxK_tr (mxK_tr (mxK_tr (mxK_tr mxK_wi mxK_wi) mxK_wi) mxK_wi) mxK_wi) mxK_wi) mxK_wi
  · rw [e46, wi_ne hb, wi_ne hb, wi_ne hb, wi_ne hb, wi_ne hb, wi_ne hb, wi_ne hb]
  · rw [e46, m_wi, m_wi, m_wi, m_wi, m_wi, m_wi, m_wi]; rfl
section
variable {h hx h1 : mxH} {T : Nat → Int32} {n p e : Nat}
theorem bad_216 {s1 : Nat} {lo hi x : Int32} (he : e ≤ 400) (b : bad h n e hx) (u : p216 s1 lo hi hx x h1) : h1 = hx := u.2.1 (bad_f (by omega) b)
theorem bad_218 {s1 : Nat} {one x : Int32} (he : e ≤ 400) (R : Rd h T n p) (b : bad h n e hx) (u : p218 s1 one hx x h1) : bad h n e h1 := by
  have nf := bad_f (by omega) b
  obtain ⟨q, hq, rfl⟩ := b
  have Rx : Rd (mx_wi (mx_wi h 381 11 (nI q)) 381 12 (nI e)) T n q := Rd_wi (Rd_at R hq) (by decide)
  have := u.2.1 nf T n q Rx
  exact ⟨sk T n q, sk_le hq, by rw [this, bk3]⟩
theorem bad_382 (b : bad h n e hx) : mx_i hx 382 = mx_i h 382 := by
  obtain ⟨q, hq, rfl⟩ := b
  rw [wi_ne (by decide), wi_ne (by decide)]
end
def p217 (i1 : Int32) (h h1 : mxH) : Prop := frM h h1 ∧ ∀ T n p np ns e, Rd h T n p → np ≤ 6 → mx_i h 382 3 = nI np → i1 = nI e → e ≤ n → outM h T n (if np = 6 then .inl e else vPe0 T n (mx_i h 382) np ns p) h1
theorem sp_217 {d : Nat} {h : mxH} {Q : mxO → mxH → Prop} {i1 : Int32} (G : mxG h) (ok : okT h) (hf : mx_i h 381 12 = -1) (okp : cB (mx_i h 382 3) 6) (oki : cB i1 400) (k : ∀ h1, p217 i1 h h1 → Q (.inl none) h1) : mx_wp (d + 6) 217 0 (mx_fr 217 [.ref 381, .int i1]) [] h Q := by
  obtain ⟨T, n, p, R⟩ := ok
  obtain ⟨np, hnp, enp⟩ := okp
  obtain ⟨be, hbe, ebe⟩ := oki
  have hn := R.1
  have hp := R.2.1
  have np6 : nI np = 6 ↔ np = 6 := by rw [show (6 : Int32) = nI 6 from rfl]; exact nI_eq (by omega) (by omega)
  -- with a fault from the start
  have full : ∀ (hx : mxH), bad h n be hx ∨ (∃ e, e ≤ n ∧ bad h n e hx) → True := fun _ _ => trivial
  have run : ∀ (hx : mxH) (e : Nat), e ≤ 400 → bad h n e hx → ∀ (x139 : Int32) (h140 : mxH), h140 = hx → (∀ h1, bad h n e h1 → Q (.inl none) h1) → (okT h140 ∧ ∀ (s1 : Nat) (lo hi : Int32) (x145 : Int32) (h146 : mxH), p216 s1 lo hi h140 x145 h146 → h146 = hx) := by
    intro hx e he b x139 h140 e140 fin
    subst e140
    exact ⟨bad_R R b, fun s1 lo hi x145 h146 u => bad_216 he b u⟩
  by_cases c6 : np = 6
  · have fin : ∀ h1, bad h n be h1 → Q (.inl none) h1 := by
      intro h1 b
      refine k h1 ⟨frM_bad b, fun T' n' p' np' ns' e' R' hn' en' ei' he' => ?_⟩
      obtain ⟨rfl, rfl, rfl⟩ := Rd_uniq R R'
      obtain rfl : np' = np := ((nI_eq (by omega) (by omega)).mp (enp.symm.trans en')).symm
      obtain rfl : e' = be := ((nI_eq (by omega) (by omega)).mp (ebe.symm.trans ei')).symm
      rw [if_pos c6]
      exact b
    refine tr_217_0 G ⟨fun _ h134 e134 => ?_, fun c => absurd (by rw [enp]; exact np6.mpr c6) c⟩
    rw [W213f hf, ebe] at e134
    have b134 : bad h n be h134 := ⟨p, hp, by rw [e134, wi_id R.2.2.2.1]⟩
    have nf : ¬ mx_i h134 381 12 = -1 := bad_f (by omega) b134
    refine ⟨bad_R R b134, fun x139 h140 u140 => ?_⟩
    have i140 : h140 = h134 := (u140.2.1 nf).2
    subst i140
    refine ⟨bad_R R b134, by omega, fun x145 h146 u146 => ?_⟩
    have i146 := bad_216 (by omega) b134 u146
    subst i146
    refine ⟨bad_R R b134, by omega, fun x151 h152 u152 => ?_⟩
    have i152 := bad_216 (by omega) b134 u152
    subst i152
    exact ⟨fun c => absurd c nf, fun _ => ⟨fun c => absurd c nf, fun _ => fin _ b134⟩⟩
  · have n6 : np < 6 := by omega
    have fin : ∀ h1, outM h T n (vPe0 T n (mx_i h 382) np 0 p) h1 → Q (.inl none) h1 := by
      intro h1 o
      refine k h1 ⟨outM_fr o, fun T' n' p' np' ns' e' R' hn' en' ei' he' => ?_⟩
      obtain ⟨rfl, rfl, rfl⟩ := Rd_uniq R R'
      obtain rfl : np' = np := ((nI_eq (by omega) (by omega)).mp (enp.symm.trans en')).symm
      rw [if_neg c6]
      unfold vPe0 at o ⊢
      match nb T' n' 0 999 p', o with
      | .inl e, o => exact o
      | .inr x1, o =>
        simp only [bnd] at o ⊢
        match hw1 : wd T' n' 21 x1.2, o with
        | .inl e, o => exact o
        | .inr q1, o =>
          simp only [] at o ⊢
          match hw2 : nb T' n' 1 60 q1, o with
          | .inl e, o => exact o
          | .inr x3, o =>
            simp only [] at o ⊢
            match hw3 : wd T' n' 2 x3.2, o with
            | .inl e, o => exact o
            | .inr q2, o =>
              simp only [] at o ⊢
              match hw4 : nb T' n' 0 11 q2, o with
              | .inl e, o => exact o
              | .inr x5, o =>
                simp only [] at o ⊢
                split at o
                · rename_i w
                  rw [if_pos w]
                  match hw5 : nb T' n' 0 11 (sk T' n' x5.2 + wl 1), o with
                  | .inl e, o => exact o
                  | .inr x6, o => exact o
                · rename_i w
                  rw [if_neg w]
                  exact o
    unfold vPe0 at fin
    refine tr_217_0 G ⟨fun c => absurd (np6.mp (enp.symm.trans c)) c6, fun _ => ⟨⟨T, n, p, R⟩, fun x3 h4 u4 => ?_⟩⟩
    -- what happens once it has failed
    have dead : ∀ (hx : mxH) (e : Nat), e ≤ n → bad h n e hx → (∀ h1, bad h n e h1 → Q (.inl none) h1) → (¬ mx_i hx 381 12 = -1) ∧ okT hx := fun hx e he b _ => ⟨bad_f (by omega) b, bad_R R b⟩
    rcases R_nb u4 hf R with ⟨v1, q1, e1, ex1, eh1⟩ | ⟨e1, q1, hq1, eh1⟩
    · simp only [bnd, e1] at fin
      obtain ⟨r1, l1, k1⟩ := nb_pr hp e1
      have R4 : Rd h4 T n q1 := by rw [eh1]; exact Rd_at R k1
      have f4 : mx_i h4 381 12 = -1 := by rw [eh1]; exact f_at.trans hf
      refine ⟨⟨T, n, q1, R4⟩, by omega, fun x9 h10 u10 => ?_⟩
      have o10 := u10.2.2 f4 T n q1 21 R4 (by decide) rfl
      match hb1 : bnd (wd T n 21 q1) (fun q => nb T n 1 60 q), o10 with
      | .inl e, o10 =>
        have fin1 : ∀ h1, bad h n e h1 → Q (.inl none) h1 := by
          intro h1 b
          refine fin h1 ?_
          have hb1 := hb1
          simp only [bnd] at hb1
          rw [hb1]
          exact b
        have he : e ≤ n := by
          unfold bnd at hb1
          split at hb1
          · rename_i e' hw
            cases hb1
            exact (wd_e k1 hw).2
          · rename_i q' hw
            exact (nb_e (wd_pr (by decide) hw).2 hb1).2
        have b10 : bad h n e h10 := bad_at (q := q1) (by rw [← eh1]; exact o10)
        have nf : ¬ mx_i h10 381 12 = -1 := bad_f (by omega) b10
        refine ⟨bad_R R b10, by omega, fun x15 h16 u16 => ?_⟩
        have i16 := bad_216 (by omega) b10 u16
        subst i16
        exact ⟨fun c => absurd c nf, fun _ => ⟨fun c => absurd c nf, fun _ => fin1 _ b10⟩⟩
      | .inr (v3, q3), o10 =>
        obtain ⟨ex3, eh3⟩ := o10
        rw [eh1, wi_wi] at eh3
        have fin3 : ∀ h1, outM h T n (bnd (bnd (wd T n 2 q3) (fun q => nb T n 0 11 q)) (fun x5 => if wrd T n 1 x5.2 = true then bnd (nb T n 0 11 (sk T n x5.2 + wl 1)) (fun x6 => .inr (perR (mx_i h 382) np v1 v3 x5.1 x6.1, np + 1, 0, x6.2)) else .inr (perR (mx_i h 382) np v1 v3 x5.1 x5.1, np + 1, 0, x5.2))) h1 → Q (.inl none) h1 := by
          intro h1 o
          refine fin h1 ?_
          have hb1 := hb1
          simp only [bnd] at hb1
          rw [hb1]
          exact o
        have k3 : q3 ≤ n := by
          unfold bnd at hb1
          split at hb1
          · cases hb1
          · rename_i q' hw
            exact (nb_pr (wd_pr (by decide) hw).2 hb1).2.2
        have R10 : Rd h10 T n q3 := by rw [eh3]; exact Rd_at R k3
        have f10 : mx_i h10 381 12 = -1 := by rw [eh3]; exact f_at.trans hf
        refine ⟨⟨T, n, q3, R10⟩, by omega, fun x15 h16 u16 => ?_⟩
        have o16 := u16.2.2 f10 T n q3 2 R10 (by decide) rfl
        match hb2 : bnd (wd T n 2 q3) (fun q => nb T n 0 11 q), o16 with
        | .inl e, o16 =>
          have he : e ≤ n := by
            unfold bnd at hb2
            split at hb2
            · rename_i e' hw
              cases hb2
              exact (wd_e k3 hw).2
            · rename_i q' hw
              exact (nb_e (wd_pr (by decide) hw).2 hb2).2
          rw [hb2] at fin3
          have b16 : bad h n e h16 := bad_at (q := q3) (by rw [← eh3]; exact o16)
          have nf : ¬ mx_i h16 381 12 = -1 := bad_f (by omega) b16
          exact ⟨fun c => absurd c nf, fun _ => ⟨fun c => absurd c nf, fun _ => fin3 _ b16⟩⟩
        | .inr (v5, q5), o16 =>
          obtain ⟨ex5, eh5⟩ := o16
          rw [eh3, wi_wi] at eh5
          rw [hb2] at fin3
          simp only [bnd] at fin3
          have k5 : q5 ≤ n := by
            unfold bnd at hb2
            split at hb2
            · cases hb2
            · rename_i q' hw
              exact (nb_pr (wd_pr (by decide) hw).2 hb2).2.2
          have R16 : Rd h16 T n q5 := by rw [eh5]; exact Rd_at R k5
          have f16 : mx_i h16 381 12 = -1 := by rw [eh5]; exact f_at.trans hf
          refine ⟨fun _ => ⟨⟨T, n, q5, R16⟩, by omega, fun x56 h57 u57 => ?_⟩, fun c => absurd f16 c⟩
          rcases R_wd (k := 1) (by decide) u57 R16 with ⟨q6, e6, w6, ne6, eq6, eh6⟩ | ⟨e6, w6, ex6, eh6⟩
          · rw [if_pos w6, ← eq6] at fin3
            rw [eh5, wi_wi] at eh6
            have k6 := (wd_pr (by decide) e6).2
            have R57 : Rd h57 T n q6 := by rw [eh6]; exact Rd_at R k6
            have f57 : mx_i h57 381 12 = -1 := by rw [eh6]; exact f_at.trans hf
            refine ⟨fun c => absurd c ne6, fun _ => ⟨⟨T, n, q6, R57⟩, fun x96 h97 u97 => ?_⟩⟩
            rcases R_nb u97 f57 R57 with ⟨v7, q7, e7, ex7, eh7⟩ | ⟨e7, q7, hq7, eh7⟩
            · rw [e7] at fin3
              rw [eh6, wi_wi] at eh7
              have k7 := (nb_pr k6 e7).2.2
              have f97 : mx_i h97 381 12 = -1 := by rw [eh7]; exact f_at.trans hf
              have m97 : mx_i h97 382 = mx_i h 382 := by rw [eh7]; exact wi_ne (by decide)
              refine ⟨fun _ => ?_, fun c => absurd f97 c⟩
              refine t217 (by rw [m97]; exact enp) n6 (fun hF KF UF mF => fin3 hF ?_)
              rw [m97, ex1, ex3, ex5, ex7] at mF
              refine ⟨mxK_tr (by rw [eh7]; exact mxK_wi) KF, fun b b1 b2 => ?_, mF, fun z hz => ?_, q7, k7, rfl, ?_⟩
              · rw [UF b b2, eh7, wi_ne b1]
              · rw [UF 381 (by decide), eh7, wi_nj hz]
              · rw [UF 381 (by decide), eh7, wi_at rfl rfl]
            · rw [e7] at fin3
              rw [eh6, wi_wi] at eh7
              have b97 : bad h n (sk T n q6) h97 := ⟨q7, hq7, eh7⟩
              have := sk_le (T := T) k6
              have nf : ¬ mx_i h97 381 12 = -1 := bad_f (by omega) b97
              exact ⟨fun c => absurd c nf, fun _ => fin3 _ b97⟩
          · rw [if_neg w6] at fin3
            rw [eh5, wi_wi] at eh6
            have f57 : mx_i h57 381 12 = -1 := by rw [eh6]; exact f_at.trans hf
            have m57 : mx_i h57 382 = mx_i h 382 := by rw [eh6]; exact wi_ne (by decide)
            refine ⟨fun _ => ⟨fun _ => ?_, fun c => absurd f57 c⟩, fun c => absurd ex6 c⟩
            refine t217 (by rw [m57]; exact enp) n6 (fun hF KF UF mF => fin3 hF ?_)
            rw [m57, ex1, ex3, ex5] at mF
            refine ⟨mxK_tr (by rw [eh6]; exact mxK_wi) KF, fun b b1 b2 => ?_, mF, fun z hz => ?_, sk T n q5, sk_le k5, skk _, ?_⟩
            · rw [UF b b2, eh6, wi_ne b1]
            · rw [UF 381 (by decide), eh6, wi_nj hz]
            · rw [UF 381 (by decide), eh6, wi_at rfl rfl]
    · simp only [bnd, e1] at fin
      have b4 : bad h n (sk T n p) h4 := ⟨q1, hq1, eh1⟩
      have := sk_le (T := T) hp
      have nf : ¬ mx_i h4 381 12 = -1 := bad_f (by omega) b4
      refine ⟨bad_R R b4, by omega, fun x9 h10 u10 => ?_⟩
      have i10 := bad_216 (by omega) b4 u10
      subst i10
      refine ⟨bad_R R b4, by omega, fun x15 h16 u16 => ?_⟩
      have i16 := bad_216 (by omega) b4 u16
      subst i16
      exact ⟨fun c => absurd c nf, fun _ => ⟨fun c => absurd c nf, fun _ => fin _ b4⟩⟩
