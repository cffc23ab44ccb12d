/-! SPECS by hand, 29: persons and stones of a text: the class; words and numbers: the reference -/
def vPer (T : Nat → Int32) (n : Nat) (r : Nat → Int32) (np ns p : Nat) : VR := bnd (wd T n 0 p) (fun p0 => bnd (nb T n 0 999 p0) (fun x1 => bnd (wd T n 21 x1.2) (fun p2 => bnd (nb T n 1 60 p2) (fun x3 => bnd (wd T n 2 x3.2) (fun p4 => bnd (nb T n 0 11 p4) (fun x5 => if wrd T n 1 x5.2 = true then bnd (nb T n 0 11 (sk T n x5.2 + wl 1)) (fun x6 => .inr (perR r np x1.1 x3.1 x5.1 x6.1, np + 1, ns, x6.2)) else .inr (perR r np x1.1 x3.1 x5.1 x5.1, np + 1, ns, x5.2)))))))
def vSto (T : Nat → Int32) (n : Nat) (r : Nat → Int32) (np ns p : Nat) : VR := bnd (wd T n 3 p) (fun p0 => bnd (nb T n 1 40 p0) (fun x1 => bnd (wd T n 4 x1.2) (fun p2 => bnd (nbx T n np (-1) p2) (fun x3 => bnd (wd T n 5 x3.2) (fun p4 => bnd (nbx T n np x3.1 p4) (fun x5 => if wrd T n 6 x5.2 = true then bnd (wd T n 7 (sk T n x5.2 + wl 6)) (fun p6 => bnd (nbx T n np x5.1 p6) (fun x7 => .inr (stoR r ns x3.1 x5.1 x1.1 x7.1, np, ns + 1, x7.2))) else .inr (stoR r ns x3.1 x5.1 x1.1 x3.1, np, ns + 1, x5.2)))))))
def cPer (T : Nat → Int32) (n p np ns : Nat) : Prop := wrd T n 0 p = true ∧ np < 6
def cSto (T : Nat → Int32) (n p np ns : Nat) : Prop := wrd T n 3 p = true ∧ ns < 10
def okW (c : (Nat → Int32) → Nat → Nat → Nat → Nat → Prop) (h : mxH) (a : Nat) : Prop := ∃ q : A28, P28 h a q ∧ c q.1 q.2.1 q.2.2.1 q.2.2.2.2.1 q.2.2.2.2.2.1
def pW' (c : (Nat → Int32) → Nat → Nat → Nat → Nat → Prop) (f : (Nat → Int32) → Nat → (Nat → Int32) → Nat → Nat → Nat → VR) (a : Nat) (h : mxH) (x : Int32) (h1 : mxH) : Prop := frV a h h1 ∧ ∀ T n p r np ns nl, Cl h T n p → p ≤ n → CpN (vw h a) r np ns nl → c T n p np ns → outV a T n nl (f T n r np ns p) x h1
theorem pW_of {c : (Nat → Int32) → Nat → Nat → Nat → Nat → Prop} {f : (Nat → Int32) → Nat → (Nat → Int32) → Nat → Nat → Nat → VR} {a d y : Nat} {ls : mxLs} {h : mxH} {Q : mxO → mxH → Prop} (ok : okW c h a) (k : ∀ x h1, pW' c f a h x h1 → Q (.inl (some (.int x))) h1) (H : ∀ T n p r np ns nl, Cl h T n p → p ≤ n → CpN (vw h a) r np ns nl → c T n p np ns → ∀ Q' : mxO → mxH → Prop, (∀ x h1, frV a h h1 → outV a T n nl (f T n r np ns p) x h1 → Q' (.inl (some (.int x))) h1) → mx_wp d y 0 ls [] h Q') : mx_wp d y 0 ls [] h Q := by
  refine all_mut (F := frV a h) (R := fun q x h1 => outV a q.1 q.2.1 q.2.2.2.2.2.2 (f q.1 q.2.1 q.2.2.2.1 q.2.2.2.2.1 q.2.2.2.2.2.1 q.2.2.1) x h1) ok (fun q pq => ?_) (fun x h1 f r => k x h1 ⟨f, fun T n p r' np ns nl a1 a2 a3 a4 => by
    have z := r (T, n, p, r', np, ns, nl) ⟨⟨a1, a2, a3⟩, a4⟩
    dsimp only at z
    exact z⟩)
  obtain ⟨T, n, p, r, np, ns, nl⟩ := q
  exact H T n p r np ns nl pq.1.1 pq.1.2.1 pq.1.2.2 pq.2 _ (fun x h1 a b => ⟨x, rfl, a, b⟩)
theorem sp_124 {d : Nat} {h : mxH} {Q : mxO → mxH → Prop} {a : Nat} (G : mxG h) (hVa : (mxT a).1 = 9) (ok : okW cPer h a) (k : ∀ x h1, pW' cPer vPer a h x h1 → Q (.inl (some (.int x))) h1) : mx_wp (d + 2) 124 0 (mx_fr 124 [.ref 101, .ref a]) [] h Q := by
  have ga := va_gt hVa
  refine pW_of ok k (fun T n p r np ns nl C hp V hc Q fin => ?_)
  obtain ⟨w0, n6⟩ := hc
  unfold vPer at fin
  -- the end
  have add : ∀ (h42 h48 : mxH) (q : Nat) (x1 x3 x5 x6 : Int32), mvC h h42 → Cl h42 T n q → q ≤ n → isR x1 0 999 → isR x3 1 60 → isR x5 0 11 → isR x6 0 11 → adP a x1 x3 x5 x6 h42 h48 → frV a h h48 ∧ outV a T n nl (.inr (perR r np x1 x3 x5 x6, np + 1, ns, q)) 1 h48 := by
    intro h42 h48 q x1 x3 x5 x6 u C42 hq r1 r3 r5 r6 ad
    have V42 := CpN_mv (by omega) u V
    obtain ⟨o1, o2⟩ := ad
    obtain ⟨a1, a2, a3, a4, a5, a6, a7⟩ := o2 np n6 (C_p V42)
    refine ⟨frV_tr (frV_mv u) ⟨mxU_mono (fun c hc => by omega) o1, fun j _ => by rw [mxU_i o1 (by omega)]⟩, rfl, Cl_U o1 (fun c c1 c2 => by omega) C42, hq, ?_⟩
    refine CpN_per V42 n6 ⟨r1.1, Int32.le_trans r1.2 (by decide)⟩ r3 r5 r6 (fun k j hk k1 k2 => ?_) a1 a2 ((a3 np).trans (if_pos rfl)) ((a4 np).trans (if_pos rfl)) ((a5 np).trans (if_pos rfl)) ((a6 np).trans (if_pos rfl)) ((a7 np).trans (if_pos rfl))
    show mx_i h48 (a + k) j = mx_i h42 (a + k) j
    by_cases q : 2 ≤ k ∧ k ≤ 6
    · have jn : j ≠ np := by omega
      have : k = 2 ∨ k = 3 ∨ k = 4 ∨ k = 5 ∨ k = 6 := by omega
      rcases this with rfl | rfl | rfl | rfl | rfl
      · rw [a3 j, if_neg jn]
      · rw [a4 j, if_neg jn]
      · rw [a5 j, if_neg jn]
      · rw [a6 j, if_neg jn]
      · rw [a7 j, if_neg jn]
    · rw [mxU_i o1 (by unfold inV at hk; omega)]
  refine trn_124_0 G hVa ⟨⟨T, n, p, C⟩, by omega, fun x3 h4 u4 => ?_⟩
  rcases C_wd (k := 0) (by decide) u4 C with ⟨q0, e0, -, ne0, eq0, C4⟩ | ⟨-, nw, -⟩
  rotate_left
  · exact absurd w0 nw
  simp only [bnd, e0] at fin
  have l0 := wd_pr (by decide) e0
  have m4 := u4.1
  refine ⟨⟨T, n, _, C4⟩, fun x8 h9 u9 => ?_⟩
  rcases C_nb u9 C4 with ⟨v1, q1, e1, ex1, ne1, C9⟩ | ⟨e1, ex1, eh1⟩
  rotate_left
  · simp only [e1] at fin
    exact ⟨fun _ => fin _ _ (by rw [eh1]; exact frV_mv m4) ⟨rfl, q0, by rw [eh1]; exact C4, rfl⟩, fun c => absurd ex1 c⟩
  simp only [e1] at fin
  obtain ⟨r1, l1, k1⟩ := nb_pr l0.2 e1
  have m9 := mvC_tr m4 u9.1
  refine ⟨fun c => absurd c ne1, fun _ => ⟨⟨T, n, _, C9⟩, by omega, fun x15 h16 u16 => ?_⟩⟩
  rcases C_wd (k := 21) (by decide) u16 C9 with ⟨q2, e2, -, ne2, eq2, C16⟩ | ⟨e2, nw2, ex2, eh2⟩
  rotate_left
  · simp only [e2] at fin
    exact ⟨fun _ => fin _ _ (by rw [eh2]; exact frV_mv m9) ⟨rfl, q1, by rw [eh2]; exact C9, rfl⟩, fun c => absurd ex2 c⟩
  simp only [e2] at fin
  have l2 := wd_pr (by decide) e2
  have m16 := mvC_tr m9 u16.1
  refine ⟨fun c => absurd c ne2, fun _ => ⟨⟨T, n, _, C16⟩, fun x21 h22 u22 => ?_⟩⟩
  rcases C_nb u22 C16 with ⟨v3, q3, e3, ex3, ne3, C22⟩ | ⟨e3, ex3, eh3⟩
  rotate_left
  · simp only [e3] at fin
    exact ⟨fun _ => fin _ _ (by rw [eh3]; exact frV_mv m16) ⟨rfl, q2, by rw [eh3]; exact C16, rfl⟩, fun c => absurd ex3 c⟩
  simp only [e3] at fin
  obtain ⟨r3, l3, k3⟩ := nb_pr l2.2 e3
  have m22 := mvC_tr m16 u22.1
  refine ⟨fun c => absurd c ne3, fun _ => ⟨⟨T, n, _, C22⟩, by omega, fun x28 h29 u29 => ?_⟩⟩
  rcases C_wd (k := 2) (by decide) u29 C22 with ⟨q4, e4, -, ne4, eq4, C29⟩ | ⟨e4, nw4, ex4, eh4⟩
  rotate_left
  · simp only [e4] at fin
    exact ⟨fun _ => fin _ _ (by rw [eh4]; exact frV_mv m22) ⟨rfl, q3, by rw [eh4]; exact C22, rfl⟩, fun c => absurd ex4 c⟩
  simp only [e4] at fin
  have l4 := wd_pr (by decide) e4
  have m29 := mvC_tr m22 u29.1
  refine ⟨fun c => absurd c ne4, fun _ => ⟨⟨T, n, _, C29⟩, fun x34 h35 u35 => ?_⟩⟩
  rcases C_nb u35 C29 with ⟨v5, q5, e5, ex5, ne5, C35⟩ | ⟨e5, ex5, eh5⟩
  rotate_left
  · simp only [e5] at fin
    exact ⟨fun _ => fin _ _ (by rw [eh5]; exact frV_mv m29) ⟨rfl, q4, by rw [eh5]; exact C29, rfl⟩, fun c => absurd ex5 c⟩
  simp only [e5] at fin
  obtain ⟨r5, l5, k5⟩ := nb_pr l4.2 e5
  have m35 := mvC_tr m29 u35.1
  refine ⟨fun c => absurd c ne5, fun _ => ⟨⟨T, n, _, C35⟩, by omega, fun x41 h42 u42 => ?_⟩⟩
  rcases C_wd (k := 1) (by decide) u42 C35 with ⟨q6, e6, w6, ne6, eq6, C42⟩ | ⟨e6, nw6, ex6, eh6⟩
  · rw [if_pos w6, ← eq6] at fin
    have l6 := wd_pr (by decide) e6
    have m42 := mvC_tr m35 u42.1
    refine ⟨fun c => absurd c ne6, fun _ => ⟨⟨T, n, _, C42⟩, fun x52 h53 u53 => ?_⟩⟩
    rcases C_nb u53 C42 with ⟨v7, q7, e7, ex7, ne7, C53⟩ | ⟨e7, ex7, eh7⟩
    · simp only [e7] at fin
      obtain ⟨r7, l7, k7⟩ := nb_pr l6.2 e7
      have m53 := mvC_tr m42 u53.1
      refine ⟨fun c => absurd c ne7, fun _ => ⟨⟨np, by omega, C_p (CpN_mv (by omega) m53 V)⟩, fun h59 u59 => ?_⟩⟩
      rw [ex1, ex3, ex5, ex7] at u59
      have z := add _ _ _ _ _ _ _ m53 C53 k7 r1 r3 r5 r7 u59
      exact fin _ _ z.1 z.2
    · simp only [e7] at fin
      exact ⟨fun _ => fin _ _ (by rw [eh7]; exact frV_mv m42) ⟨rfl, q6, by rw [eh7]; exact C42, rfl⟩, fun c => absurd ex7 c⟩
  · rw [if_neg nw6] at fin
    rw [eh6]
    refine ⟨fun _ => ⟨⟨np, by omega, C_p (CpN_mv (by omega) m35 V)⟩, fun h48 u48 => ?_⟩, fun c => absurd ex6 c⟩
    rw [ex1, ex3, ex5] at u48
    have z := add _ _ _ _ _ _ _ m35 C35 k5 r1 r3 r5 r5 u48
    exact fin _ _ z.1 z.2
theorem nbx_pr {T : Nat → Int32} {n np p q : Nat} {one v : Int32} (hn : np ≤ 6) (hp : p ≤ n) (h : nbx T n np one p = .inr (v, q)) : isI v (nI np) ∧ ¬ v = one ∧ p < q ∧ q ≤ n := by
  unfold nbx at h
  match e : nb T n 0 (nI np - 1) p with
  | .inl e' => rw [e] at h; cases h
  | .inr (v', q') =>
    rw [e] at h
    simp only [bnd] at h
    split at h
    · cases h
    · rename_i c
      cases h
      obtain ⟨r, a, b⟩ := nb_pr hp e
      refine ⟨⟨Int32.not_lt.mpr r.1, ?_⟩, c, a, b⟩
      have := r.2
      have b1 : (0 : Int32) ≤ nI np := nI_pos' (by omega)
      have b2 : nI np ≤ 6 := nI_le (b := 6) hn (by decide)
      grind
theorem C_nx {h h1 : mxH} {T : Nat → Int32} {n p a np : Nat} {one x : Int32} (u : p126 one a h x h1) (C : Cl h T n p) (e : mx_i h (a + 1) 0 = nI np) : (∃ v q, nbx T n np one p = .inr (v, q) ∧ x = v ∧ ¬ x = -1 ∧ Cl h1 T n q) ∨ (nbx T n np one p = .inl (sk T n p) ∧ x = -1 ∧ h1 = h) := u.2 T n p np C e
theorem sp_125 {d : Nat} {h : mxH} {Q : mxO → mxH → Prop} {a : Nat} (G : mxG h) (hVa : (mxT a).1 = 9) (ok : okW cSto h a) (k : ∀ x h1, pW' cSto vSto a h x h1 → Q (.inl (some (.int x))) h1) : mx_wp (d + 3) 125 0 (mx_fr 125 [.ref 101, .ref a]) [] h Q := by
  have ga := va_gt hVa
  refine pW_of ok k (fun T n p r np ns nl C hp V hc Q fin => ?_)
  obtain ⟨w0, n10⟩ := hc
  have h6 := C_np6 V
  unfold vSto at fin
  have add : ∀ (h42 h48 : mxH) (q : Nat) (x w dd l b : Int32), mvC h h42 → Cl h42 T n q → q ≤ n → isR w 1 40 → isI dd (nI np) → isI l (nI np) → isI b (nI np) → adS a w dd l b h42 x h48 → frV a h h48 ∧ outV a T n nl (.inr (stoR r ns dd l w b, np, ns + 1, q)) 1 h48 := by
    intro h42 h48 q x w dd l b u C42 hq rw_ rd rl rb ad
    have V42 := CpN_mv (by omega) u V
    obtain ⟨o1, o2⟩ := ad
    obtain ⟨-, a1, a2, a3, a4, a5, a6⟩ := (o2 ns (by omega) (C_s V42)).2 n10
    refine ⟨frV_tr (frV_mv u) ⟨mxU_mono (fun c hc => by omega) o1, fun j _ => by rw [mxU_i o1 (by omega)]⟩, rfl, Cl_U o1 (fun c c1 c2 => by omega) C42, hq, ?_⟩
    refine CpN_sto V42 n10 rd rl rw_ rb (fun k j hk k1 k2 => ?_) ((a1 0).trans (if_pos rfl)) ((a2 ns).trans (if_pos rfl)) ((a3 ns).trans (if_pos rfl)) ((a4 ns).trans (if_pos rfl)) ((a5 ns).trans (if_pos rfl)) ((a6 ns).trans (if_pos rfl))
    show mx_i h48 (a + k) j = mx_i h42 (a + k) j
    by_cases q : 7 ≤ k ∧ k ≤ 12
    · have : k = 7 ∨ k = 8 ∨ k = 9 ∨ k = 10 ∨ k = 11 ∨ k = 12 := by omega
      rcases this with rfl | rfl | rfl | rfl | rfl | rfl
      · rw [a1 j, if_neg (by omega)]
      · rw [a2 j, if_neg (by omega)]
      · rw [a3 j, if_neg (by omega)]
      · rw [a4 j, if_neg (by omega)]
      · rw [a5 j, if_neg (by omega)]
      · rw [a6 j, if_neg (by omega)]
    · rw [mxU_i o1 (by unfold inV at hk; omega)]
  have cnt : ∀ h', mvC h h' → mx_i h' (a + 1) 0 = nI np := fun h' u => C_p (CpN_mv (by omega) u V)
  have cns : ∀ h', mvC h h' → cB (mx_i h' (a + 7) 0) 10 := fun h' u => C_cs (CpN_mv (by omega) u V)
  refine tr_125_0 G hVa ⟨⟨T, n, p, C⟩, by omega, fun x3 h4 u4 => ?_⟩
  rcases C_wd (k := 3) (by decide) u4 C with ⟨q0, e0, -, ne0, eq0, C4⟩ | ⟨-, nw, -⟩
  rotate_left
  · exact absurd w0 nw
  simp only [bnd, e0] at fin
  have l0 := wd_pr (by decide) e0
  have m4 := u4.1
  refine ⟨⟨T, n, _, C4⟩, fun x8 h9 u9 => ?_⟩
  rcases C_nb u9 C4 with ⟨v1, q1, e1, ex1, ne1, C9⟩ | ⟨e1, ex1, eh1⟩
  rotate_left
  · simp only [e1] at fin
    exact ⟨fun _ => fin _ _ (by rw [eh1]; exact frV_mv m4) ⟨rfl, q0, by rw [eh1]; exact C4, rfl⟩, fun c => absurd ex1 c⟩
  simp only [e1] at fin
  obtain ⟨r1, l1, k1⟩ := nb_pr l0.2 e1
  have m9 := mvC_tr m4 u9.1
  refine ⟨fun c => absurd c ne1, fun _ => ⟨⟨T, n, _, C9⟩, by omega, fun x15 h16 u16 => ?_⟩⟩
  rcases C_wd (k := 4) (by decide) u16 C9 with ⟨q2, e2, -, ne2, eq2, C16⟩ | ⟨e2, nw2, ex2, eh2⟩
  rotate_left
  · simp only [e2] at fin
    exact ⟨fun _ => fin _ _ (by rw [eh2]; exact frV_mv m9) ⟨rfl, q1, by rw [eh2]; exact C9, rfl⟩, fun c => absurd ex2 c⟩
  simp only [e2] at fin
  have l2 := wd_pr (by decide) e2
  have m16 := mvC_tr m9 u16.1
  refine ⟨fun c => absurd c ne2, fun _ => ⟨⟨T, n, _, C16⟩, fun x21 h22 u22 => ?_⟩⟩
  rcases C_nx u22 C16 (cnt _ m16) with ⟨v3, q3, e3, ex3, ne3, C22⟩ | ⟨e3, ex3, eh3⟩
  rotate_left
  · simp only [e3] at fin
    exact ⟨fun _ => fin _ _ (by rw [eh3]; exact frV_mv m16) ⟨rfl, q2, by rw [eh3]; exact C16, rfl⟩, fun c => absurd ex3 c⟩
  simp only [e3] at fin
  obtain ⟨r3, -, l3, k3⟩ := nbx_pr h6 l2.2 e3
  have m22 := mvC_tr m16 u22.1
  refine ⟨fun c => absurd c ne3, fun _ => ⟨⟨T, n, _, C22⟩, by omega, fun x28 h29 u29 => ?_⟩⟩
  rcases C_wd (k := 5) (by decide) u29 C22 with ⟨q4, e4, -, ne4, eq4, C29⟩ | ⟨e4, nw4, ex4, eh4⟩
  rotate_left
  · simp only [e4] at fin
    exact ⟨fun _ => fin _ _ (by rw [eh4]; exact frV_mv m22) ⟨rfl, q3, by rw [eh4]; exact C22, rfl⟩, fun c => absurd ex4 c⟩
  simp only [e4] at fin
  have l4 := wd_pr (by decide) e4
  have m29 := mvC_tr m22 u29.1
  refine ⟨fun c => absurd c ne4, fun _ => ⟨⟨T, n, _, C29⟩, fun x34 h35 u35 => ?_⟩⟩
  rw [ex3] at u35
  rcases C_nx u35 C29 (cnt _ m29) with ⟨v5, q5, e5, ex5, ne5, C35⟩ | ⟨e5, ex5, eh5⟩
  rotate_left
  · simp only [e5] at fin
    exact ⟨fun _ => fin _ _ (by rw [eh5]; exact frV_mv m29) ⟨rfl, q4, by rw [eh5]; exact C29, rfl⟩, fun c => absurd ex5 c⟩
  simp only [e5] at fin
  obtain ⟨r5, -, l5, k5⟩ := nbx_pr h6 l4.2 e5
  have m35 := mvC_tr m29 u35.1
  refine ⟨fun c => absurd c ne5, fun _ => ⟨⟨T, n, _, C35⟩, by omega, fun x41 h42 u42 => ?_⟩⟩
  rcases C_wd (k := 6) (by decide) u42 C35 with ⟨q6, e6, w6, ne6, eq6, C42⟩ | ⟨e6, nw6, ex6, eh6⟩
  · rw [if_pos w6, ← eq6] at fin
    have l6 := wd_pr (by decide) e6
    have m42 := mvC_tr m35 u42.1
    refine ⟨fun c => absurd c ne6, fun _ => ⟨⟨T, n, _, C42⟩, by omega, fun x53 h54 u54 => ?_⟩⟩
    rcases C_wd (k := 7) (by decide) u54 C42 with ⟨q7, e7, -, ne7, eq7, C54⟩ | ⟨e7, nw7, ex7, eh7⟩
    · simp only [e7] at fin
      have l7 := wd_pr (by decide) e7
      have m54 := mvC_tr m42 u54.1
      refine ⟨fun c => absurd c ne7, fun _ => ⟨⟨T, n, _, C54⟩, fun x65 h66 u66 => ?_⟩⟩
      rw [ex5] at u66
      rcases C_nx u66 C54 (cnt _ m54) with ⟨v8, q8, e8, ex8, ne8, C66⟩ | ⟨e8, ex8, eh8⟩
      · simp only [e8] at fin
        obtain ⟨r8, -, l8, k8⟩ := nbx_pr h6 l7.2 e8
        have m66 := mvC_tr m54 u66.1
        refine ⟨fun c => absurd c ne8, fun _ => ⟨cns _ m66, fun x71 h72 u72 => ?_⟩⟩
        rw [ex1, ex3, ex5, ex8] at u72
        have z := add _ _ _ _ _ _ _ _ m66 C66 k8 r1 r3 r5 r8 u72
        exact fin _ _ z.1 z.2
      · simp only [e8] at fin
        exact ⟨fun _ => fin _ _ (by rw [eh8]; exact frV_mv m54) ⟨rfl, q7, by rw [eh8]; exact C54, rfl⟩, fun c => absurd ex8 c⟩
    · simp only [e7] at fin
      exact ⟨fun _ => ⟨fun _ => fin _ _ (by rw [eh7]; exact frV_mv m42) ⟨rfl, q6, by rw [eh7]; exact C42, rfl⟩, fun c => absurd rfl c⟩, fun c => absurd ex7 c⟩
  · rw [if_neg nw6] at fin
    rw [eh6]
    refine ⟨fun _ => ⟨cns _ m35, fun x47 h48 u48 => ?_⟩, fun c => absurd ex6 c⟩
    rw [ex1, ex3, ex5] at u48
    have z := add _ _ _ _ _ _ _ _ m35 C35 k5 r1 r3 r5 r3 u48
    exact fin _ _ z.1 z.2
/-! the reference -/
theorem R_nb {h h1 : mxH} {T : Nat → Int32} {n p : Nat} {lo hi x : Int32} (u : p215 lo hi h x h1) (hf : mx_i h 381 12 = -1) (R : Rd h T n p) : (∃ v q, nb T n lo hi p = .inr (v, q) ∧ x = v ∧ h1 = mx_wi h 381 11 (nI q)) ∨ (nb T n lo hi p = .inl (sk T n p) ∧ ∃ q, q ≤ n ∧ h1 = mx_wi (mx_wi h 381 11 (nI q)) 381 12 (nI (sk T n p))) := by
  rcases u.2.2 hf T n p R with ⟨g, e, eh⟩ | ⟨g, q, q1, q2, eh⟩
  · refine .inl ⟨_, _, ?_, e, eh⟩
    unfold nb
    exact if_pos g
  · refine .inr ⟨?_, q, q2, eh⟩
    unfold nb
    exact if_neg g
theorem R_wd {h h1 : mxH} {T : Nat → Int32} {n p k : Nat} {x : Int32} (hk : k < 26) (u : p212 (30 + 2 * k) h x h1) (R : Rd h T n p) : (∃ q, wd T n k p = .inr q ∧ wrd T n k p = true ∧ ¬ x = 0 ∧ q = sk T n p + wl k ∧ h1 = mx_wi h 381 11 (nI q)) ∨ (wd T n k p = .inl (sk T n p) ∧ ¬ wrd T n k p = true ∧ x = 0 ∧ h1 = mx_wi h 381 11 (nI (sk T n p))) := by
  rcases u.2 T n p k R hk rfl with ⟨w, e, eh⟩ | ⟨w, e, eh⟩
  · refine .inl ⟨_, ?_, w, by rw [e]; decide, rfl, eh⟩
    unfold wd
    exact if_pos w
  · refine .inr ⟨?_, w, e, eh⟩
    unfold wd
    exact if_neg w
/-- something was read: a number and where one is now, or it failed -/
def outN (h : mxH) (n : Nat) (res : Sum Nat (Int32 × Nat)) (x : Int32) (h1 : mxH) : Prop := match res with
  | .inl e => bad h n e h1
  | .inr (v, q) => x = v ∧ h1 = mx_wi h 381 11 (nI q)
def p216 (s1 : Nat) (lo hi : Int32) (h : mxH) (x : Int32) (h1 : mxH) : Prop := mxK h h1 ∧ (¬ mx_i h 381 12 = -1 → h1 = h) ∧ (mx_i h 381 12 = -1 → ∀ T n p k, Rd h T n p → k < 26 → s1 = 30 + 2 * k → outN h n (bnd (wd T n k p) (fun q => nb T n lo hi q)) x h1)
theorem sp_216 {d : Nat} {h : mxH} {Q : mxO → mxH → Prop} {s1 : Nat} {i2 i3 : Int32} (G : mxG h) (ok : okT h) (hs : (30 ≤ s1 ∧ s1 < 82 ∧ s1 % 2 = 0)) (k : ∀ x h1, p216 s1 i2 i3 h x h1 → Q (.inl (some (.int x))) h1) : mx_wp (d + 5) 216 0 (mx_fr 216 [.ref 381, .ref s1, .int i2, .int i3]) [] h Q := by
  obtain ⟨T, n, p, R⟩ := ok
  have hn := R.1
  have hp := R.2.1
  have skn : sk T n p ≤ n := sk_le hp
  refine tr_216_0 G ⟨fun hf => ⟨⟨T, n, p, R⟩, hs, fun x9 h10 u10 => ?_⟩, fun hf => ⟨⟨T, n, p, R⟩, fun x3 h4 u4 => k _ _ ⟨u4.1, fun _ => (u4.2.1 hf).2, fun c => absurd c hf⟩⟩⟩
  obtain ⟨kk, hk26, rfl⟩ : ∃ kk, kk < 26 ∧ s1 = 30 + 2 * kk := ⟨(s1 - 30) / 2, by omega, by omega⟩
  have fin : ∀ x h1, mxK h h1 → outN h n (bnd (wd T n kk p) (fun q => nb T n i2 i3 q)) x h1 → Q (.inl (some (.int x))) h1 := by
    intro x h1 K r
    refine k x h1 ⟨K, fun c => absurd hf c, fun _ T' n' p' k' R' hk' e' => ?_⟩
    obtain ⟨rfl, rfl, rfl⟩ := Rd_uniq R R'
    obtain rfl : k' = kk := by omega
    exact r
  rcases R_wd hk26 u10 R with ⟨q, e, w, ne, eq, eh⟩ | ⟨e, w, ex, eh⟩
  · simp only [bnd, e] at fin
    have lq := wd_pr hk26 e
    have R10 : Rd h10 T n q := by rw [eh]; exact Rd_at R lq.2
    have f10 : mx_i h10 381 12 = -1 := by rw [eh]; exact f_at.trans hf
    refine ⟨fun c => absurd c ne, fun _ => ⟨⟨T, n, q, R10⟩, fun x15 h16 u16 => ?_⟩⟩
    have K16 : mxK h h16 := mxK_tr (by rw [eh]; exact mxK_wi) u16.1
    rcases R_nb u16 f10 R10 with ⟨v, q2, e2, ex2, eh2⟩ | ⟨e2, q2, hq2, eh2⟩
    · rw [e2] at fin
      exact fin _ _ K16 ⟨ex2, by rw [eh2, eh, wi_wi]⟩
    · rw [e2] at fin
      exact fin _ _ K16 ⟨q2, hq2, by rw [eh2, eh, wi_wi]⟩
  · simp only [bnd, e] at fin
    refine ⟨fun _ h19 e19 => ?_, fun c => absurd ex c⟩
    have f10 : mx_i h10 381 12 = -1 := by rw [eh]; exact f_at.trans hf
    rw [W213f f10, eh, wi_at rfl rfl] at e19
    have R19 : Rd h19 T n (sk T n p) := by rw [e19]; exact Rd_wi (Rd_at R skn) (by decide)
    refine ⟨⟨T, n, _, R19⟩, fun x24 h25 u25 => ?_⟩
    have f19 : ¬ mx_i h19 381 12 = -1 := by rw [e19, wi_at rfl rfl]; exact nI_ne1 (by omega)
    rw [(u25.2.1 f19).2]
    exact fin _ _ (by rw [e19]; exact mxK_tr mxK_wi mxK_wi) ⟨_, skn, e19⟩
def p218 (s1 : Nat) (one : Int32) (h : mxH) (x : Int32) (h1 : mxH) : Prop := mxK h h1 ∧ (¬ mx_i h 381 12 = -1 → ∀ T n p, Rd h T n p → h1 = mx_wi h 381 11 (nI (sk T n p))) ∧ (mx_i h 381 12 = -1 → ∀ T n p k np, Rd h T n p → k < 26 → s1 = 30 + 2 * k → np ≤ 6 → mx_i h 382 3 = nI np → outN h n (bnd (wd T n k p) (fun q => nbx T n np one q)) x h1)
theorem sp_218 {d : Nat} {h : mxH} {Q : mxO → mxH → Prop} {s1 : Nat} {i2 : Int32} (G : mxG h) (ok : okT h) (hs : (30 ≤ s1 ∧ s1 < 82 ∧ s1 % 2 = 0)) (okp : cB (mx_i h 382 3) 6) (k : ∀ x h1, p218 s1 i2 h x h1 → Q (.inl (some (.int x))) h1) : mx_wp (d + 5) 218 0 (mx_fr 218 [.ref 381, .ref s1, .int i2]) [] h Q := by
  obtain ⟨T, n, p, R⟩ := ok
  obtain ⟨np, hnp, enp⟩ := okp
  have hn := R.1
  have hp := R.2.1
  have skn : sk T n p ≤ n := sk_le hp
  refine tr_218_0 G ⟨fun hf => ⟨⟨T, n, p, R⟩, hs, fun x20 h21 u21 => ?_⟩, fun hf => ⟨⟨T, n, p, R⟩, fun x3 h4 u4 => ?_⟩⟩
  · obtain ⟨kk, hk26, rfl⟩ : ∃ kk, kk < 26 ∧ s1 = 30 + 2 * kk := ⟨(s1 - 30) / 2, by omega, by omega⟩
    have fin : ∀ x h1, mxK h h1 → outN h n (bnd (wd T n kk p) (fun q => nbx T n np i2 q)) x h1 → Q (.inl (some (.int x))) h1 := by
      intro x h1 K r
      refine k x h1 ⟨K, fun c => absurd hf c, fun _ T' n' p' k' np' R' hk' e' hn' en' => ?_⟩
      obtain ⟨rfl, rfl, rfl⟩ := Rd_uniq R R'
      obtain rfl : k' = kk := by omega
      obtain rfl : np' = np := ((nI_eq (by omega) (by omega)).mp (enp.symm.trans en')).symm
      exact r
    rcases R_wd hk26 u21 R with ⟨q, e, w, ne, eq, eh⟩ | ⟨e, w, ex, eh⟩
    · simp only [bnd, e] at fin
      have lq := wd_pr hk26 e
      have R21 : Rd h21 T n q := by rw [eh]; exact Rd_at R lq.2
      have f21 : mx_i h21 381 12 = -1 := by rw [eh]; exact f_at.trans hf
      have skq : sk T n q ≤ n := sk_le lq.2
      refine ⟨fun c => absurd c ne, fun _ => ⟨⟨T, n, q, R21⟩, fun x26 h27 u27 => ?_⟩⟩
      obtain ⟨e27, ex26⟩ := u27.2 T n q R21
      rw [eh, wi_wi] at e27
      have R27 : Rd h27 T n (sk T n q) := by rw [e27]; exact Rd_at R skq
      have f27 : mx_i h27 381 12 = -1 := by rw [e27]; exact f_at.trans hf
      have m27 : mx_i h27 382 3 = nI np := by rw [e27, wi_ne (by decide)]; exact enp
      rw [m27]
      refine ⟨⟨T, n, _, R27⟩, fun x31 h32 u32 => ?_⟩
      have K32 : mxK h h32 := mxK_tr (by rw [e27]; exact mxK_wi) u32.1
      have nbs : nb T n 0 (nI np - 1) (sk T n q) = nb T n 0 (nI np - 1) q := by
        unfold nb endN numN
        rw [skk]
      unfold nbx at fin
      rcases R_nb u32 f27 R27 with ⟨v, q2, e2, ex2, eh2⟩ | ⟨e2, q2, hq2, eh2⟩
      · rw [nbs] at e2
        rw [e2] at fin
        simp only [bnd] at fin
        have f32 : mx_i h32 381 12 = -1 := by rw [eh2]; exact f_at.trans f27
        refine ⟨fun _ => ⟨fun c h37 e37 => ?_, fun c => ?_⟩, fun c => absurd f32 c⟩
        · rw [if_pos (ex2.symm.trans c)] at fin
          rw [W213f f32, ex26, eh2, e27, wi_wi] at e37
          obtain ⟨-, -, hq2⟩ := nb_pr lq.2 e2
          exact fin _ _ (by rw [e37]; exact mxK_tr mxK_wi mxK_wi) ⟨q2, hq2, e37⟩
        · rw [if_neg (fun z => c (ex2.trans z))] at fin
          exact fin _ _ K32 ⟨ex2, by rw [eh2, e27, wi_wi]⟩
      · rw [nbs, skk] at e2
        rw [skk] at eh2
        rw [e2] at fin
        simp only [bnd] at fin
        have f32 : ¬ mx_i h32 381 12 = -1 := by rw [eh2, wi_at rfl rfl]; exact nI_ne1 (by omega)
        exact ⟨fun c => absurd c f32, fun _ => fin _ _ K32 ⟨q2, hq2, by rw [eh2, e27, wi_wi]⟩⟩
    · simp only [bnd, e] at fin
      refine ⟨fun _ h41 e41 => ?_, fun c => absurd ex c⟩
      have f21 : mx_i h21 381 12 = -1 := by rw [eh]; exact f_at.trans hf
      rw [W213f f21, eh, wi_at rfl rfl] at e41
      have R41 : Rd h41 T n (sk T n p) := by rw [e41]; exact Rd_wi (Rd_at R skn) (by decide)
      have f41 : mx_i h41 381 12 = nI (sk T n p) := by rw [e41, wi_at rfl rfl]
      refine ⟨⟨T, n, _, R41⟩, fun x46 h47 u47 => ?_⟩
      obtain ⟨e47, -⟩ := u47.2 T n _ R41
      rw [skk] at e47
      have i47 : h47 = h41 := by rw [e47]; exact wi_id R41.2.2.2.1
      rw [i47]
      refine ⟨⟨T, n, _, R41⟩, fun x51 h52 u52 => ?_⟩
      have nf : ¬ mx_i h41 381 12 = -1 := by rw [f41]; exact nI_ne1 (by omega)
      have i52 : h52 = h41 := (u52.2.1 nf).2
      rw [i52]
      exact ⟨fun c => absurd c nf, fun _ => fin _ _ (by rw [e41]; exact mxK_tr mxK_wi mxK_wi) ⟨_, skn, e41⟩⟩
  · obtain ⟨e4, -⟩ := u4.2 T n p R
    have R4 : Rd h4 T n (sk T n p) := by rw [e4]; exact Rd_at R skn
    have f4 : ¬ mx_i h4 381 12 = -1 := by rw [e4, f_at]; exact hf
    refine ⟨⟨T, n, _, R4⟩, fun x8 h9 u9 => ?_⟩
    have i9 : h9 = h4 := (u9.2.1 f4).2
    rw [i9]
    refine ⟨fun c => absurd c f4, fun _ => k _ _ ⟨u4.1, fun _ T' n' p' R' => ?_, fun c => absurd c hf⟩⟩
    obtain ⟨rfl, rfl, rfl⟩ := Rd_uniq R R'
    exact e4
