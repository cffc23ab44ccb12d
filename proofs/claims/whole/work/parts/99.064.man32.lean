/-! SPECS by hand, 32: a text of the valley: the class; a line: the reference -/
def vLs (T : Nat → Int32) (n : Nat) : Nat → (Nat → Int32) → Nat → Nat → Nat → Sum Nat ((Nat → Int32) × Nat × Nat)
  | 0, _, _, _, p => .inl (sk T n p)
  | j + 1, r, np, ns, p => match vLn T n r np ns p with
    | .inl e => .inl e
    | .inr (r', np', ns', q) => if sk T n q < n then (if sgn T n 59 q = true then vLs T n j r' np' ns' (sk T n q + 1) else .inl (sk T n q)) else .inr (r', np', ns')
def vAll (T : Nat → Int32) (n : Nat) (r : Nat → Int32) (np ns : Nat) : Sum Nat ((Nat → Int32) × Nat × Nat) := if sk T n 0 < n then vLs T n 14 r np ns 0 else .inr (r, np, ns)
def outW (a : Nat) (T : Nat → Int32) (n nl : Nat) (res : Sum Nat ((Nat → Int32) × Nat × Nat)) (x : Int32) (h1 : mxH) : Prop := match res with
  | .inl e => x = 0 ∧ ∃ p, Cl h1 T n p ∧ sk T n p = e
  | .inr (r', np', ns') => x = 1 ∧ CpN (vw h1 a) r' np' ns' nl
theorem H122 {d a n nl : Nat} {T : Nat → Int32} {h0 : mxH} {Q : mxO → mxH → Prop} {res : Sum Nat ((Nat → Int32) × Nat × Nat)} (hVa : (mxT a).1 = 9) (fin : ∀ x h1, frV a h0 h1 → outW a T n nl res x h1 → Q (.inl (some (.int x))) h1) : ∀ (j p i : Nat) (r : Nat → Int32) (np ns : Nat) (h : mxH), j + i = 14 → mxG h → Cl h T n p → p ≤ n → CpN (vw h a) r np ns nl → frV a h0 h → vLs T n j r np ns p = res → H_122_7 (d + 5) h a (nI i) Q := by
  have ga := va_gt hVa
  intro j
  induction j with
  | zero =>
    intro p i r np ns h hj G C hp V F hR
    have hR : Sum.inl (sk T n p) = res := hR
    refine tr_122_7 G hVa ⟨fun c => absurd ((nI_ltI (b := 14) (by omega) (by decide)).mp c) (by omega), fun _ => fin _ _ F ?_⟩
    rw [← hR]
    exact ⟨rfl, p, C, rfl⟩
  | succ j ih =>
    intro p i r np ns h hj G C hp V F hR
    have hn := Cl_n C
    refine tr_122_7 G hVa ⟨fun _ => ⟨⟨(T, n, p, r, np, ns, nl), C, hp, V⟩, fun x3 h4 u4 => ?_⟩, fun c => absurd (show nI i < 14 from nI_lt (b := 14) (by omega) (by decide)) c⟩
    have o := u4.2 T n p r np ns nl C hp V
    have F4 := frV_tr F u4.1
    have G4 := mxU_G u4.1.1 G
    unfold vLs at hR
    match hl : vLn T n r np ns p, o with
    | .inl e, o =>
      rw [hl] at hR
      have hR : Sum.inl e = res := hR
      refine ⟨fun _ => fin _ _ F4 ?_, fun c => absurd o.1 c⟩
      rw [← hR]
      exact ⟨rfl, o.2⟩
    | .inr (r', np', ns', q), o =>
      rw [hl] at hR
      obtain ⟨o1, C4, hq, V4⟩ := o
      refine ⟨fun c => absurd (o1.symm.trans c) (by decide), fun _ => ⟨V93_ob C4, ?_⟩⟩
      rw [V93_i C4]
      by_cases c : sk T n q < n
      · rw [if_pos c]
        simp only [if_pos c] at hR
        refine ⟨fun _ => ⟨⟨T, n, q, C4⟩, fun x11 h12 u12 => ?_⟩, fun y => absurd rfl y⟩
        have F12 := frV_tr F4 (frV_mv u12.1)
        rcases u12.2 T n q C4 (by unfold isSg; decide) with ⟨y1, y2, y3, y4⟩ | ⟨y1, y2, y3⟩
        · have sg : sgn T n 59 q = true := decide_eq_true ⟨y1, y2⟩
          simp only [if_pos sg] at hR
          refine ⟨fun w => absurd (y3.symm.trans w) (by decide), fun _ => ?_⟩
          rw [nI_1]
          exact ih (sk T n q + 1) (i + 1) r' np' ns' h12 (by omega) (mxK_G (mvC_K u12.1) G4) y4 (by omega) (CpN_mv (by omega) u12.1 V4) F12 hR
        · have sg : ¬ sgn T n 59 q = true := fun w => y1 (sgn_in w)
          simp only [if_neg sg] at hR
          refine ⟨fun _ => fin _ _ F12 ?_, fun w => absurd y2 w⟩
          have hR : Sum.inl (sk T n q) = res := hR
          rw [← hR, y3]
          exact ⟨rfl, q, C4, rfl⟩
      · rw [if_neg c]
        simp only [if_neg c] at hR
        refine ⟨fun y => absurd y (by decide), fun _ => fin _ _ F4 ?_⟩
        have hR : Sum.inr (r', np', ns') = res := hR
        rw [← hR]
        exact ⟨rfl, V4⟩
abbrev A32 : Type := (Nat → Int32) × Nat × (Nat → Int32) × Nat × Nat × Nat
def P32 (h : mxH) (a : Nat) (q : A32) : Prop := Cl h q.1 q.2.1 0 ∧ CpN (vw h a) q.2.2.1 q.2.2.2.1 q.2.2.2.2.1 q.2.2.2.2.2
def okX (h : mxH) (a : Nat) : Prop := ∃ q, P32 h a q
def p122 (a : Nat) (h : mxH) (x : Int32) (h1 : mxH) : Prop := frV a h h1 ∧ ∀ T n r np ns nl, Cl h T n 0 → CpN (vw h a) r np ns nl → outW a T n nl (vAll T n r np ns) x h1
theorem sp_122 {d : Nat} {h : mxH} {Q : mxO → mxH → Prop} {a : Nat} (G : mxG h) (hVa : (mxT a).1 = 9) (ok : okX h a) (k : ∀ x h1, p122 a h x h1 → Q (.inl (some (.int x))) h1) : mx_wp (d + 5) 122 0 (mx_fr 122 [.ref 101, .ref a]) [] h Q := by
  refine all_mut (F := frV a h) (R := fun q x h1 => outW a q.1 q.2.1 q.2.2.2.2.2 (vAll q.1 q.2.1 q.2.2.1 q.2.2.2.1 q.2.2.2.2.1) x h1) ok (fun q pq => ?_) (fun x h1 f r => k x h1 ⟨f, fun T n r' np ns nl a1 a2 => by
    have z := r (T, n, r', np, ns, nl) ⟨a1, a2⟩
    dsimp only at z
    exact z⟩)
  obtain ⟨T, n, r, np, ns, nl⟩ := q
  obtain ⟨C, V⟩ := pq
  have C : Cl h T n 0 := C
  have V : CpN (vw h a) r np ns nl := V
  dsimp only
  refine tr_122_0 G hVa ⟨V93_ob C, ?_⟩
  rw [V93_i C]
  by_cases c : sk T n 0 < n
  · rw [if_pos c]
    refine ⟨fun _ => ?_, fun y => absurd rfl y⟩
    refine H122 (T := T) (n := n) (nl := nl) (h0 := h) (res := vAll T n r np ns) hVa (fun x h1 f o => ⟨x, rfl, f, o⟩) 14 0 0 r np ns h rfl G C (Nat.zero_le _) V frV_rfl ?_
    unfold vAll
    rw [if_pos c]
  · rw [if_neg c]
    refine ⟨fun y => absurd y (by decide), fun _ => ⟨1, rfl, frV_rfl, ?_⟩⟩
    unfold vAll
    rw [if_neg c]
    exact ⟨rfl, V⟩
/-! the reference -/
def p221 (h h1 : mxH) : Prop := frM h h1 ∧ ∀ T n p np ns, Rd h T n p → np ≤ 6 → ns ≤ 10 → mx_i h 382 3 = nI np → mx_i h 382 4 = nI ns → outM h T n (vLn T n (mx_i h 382) np ns p) h1
theorem sp_221 {d : Nat} {h : mxH} {Q : mxO → mxH → Prop} (G : mxG h) (ok : okT h) (hf : mx_i h 381 12 = -1) (okp : cB (mx_i h 382 3) 6) (oks : cB (mx_i h 382 4) 10) (k : ∀ h1, p221 h h1 → Q (.inl none) h1) : mx_wp (d + 7) 221 0 (mx_fr 221 [.ref 381]) [] h Q := by
  obtain ⟨T, n, p, R⟩ := ok
  obtain ⟨np, hnp, enp⟩ := okp
  obtain ⟨ns, hns, ens⟩ := oks
  have hn := R.1
  have hp := R.2.1
  have skn : sk T n p ≤ n := sk_le hp
  have fin : ∀ h1, outM h T n (vLn T n (mx_i h 382) np ns p) h1 → Q (.inl none) h1 := by
    intro h1 o
    refine k h1 ⟨outM_fr o, fun T' n' p' np' ns' R' hn' hs' en' es' => ?_⟩
    obtain ⟨rfl, rfl, rfl⟩ := Rd_uniq R R'
    obtain rfl : np' = np := ((nI_eq (by omega) (by omega)).mp (enp.symm.trans en')).symm
    obtain rfl : ns' = ns := ((nI_eq (by omega) (by omega)).mp (ens.symm.trans es')).symm
    exact o
  unfold vLn at fin
  have mw : ∀ v, mx_i (mx_wi h 381 11 v) 382 = mx_i h 382 := fun v => wi_ne (by decide)
  have fw : ∀ v, mx_i (mx_wi h 381 11 v) 381 12 = -1 := fun v => f_at.trans hf
  refine tr_221_0 G ⟨⟨T, n, p, R⟩, fun x2 h3 u3 => ?_⟩
  obtain ⟨e3, ex2⟩ := u3.2 T n p R
  have R3 : Rd h3 T n (sk T n p) := by rw [e3]; exact Rd_at R skn
  have cx2 : cB x2 400 := ⟨sk T n p, by omega, ex2⟩
  -- a word that isn't there
  have step : ∀ {kk : Nat} {x : Int32} {hx : mxH}, kk < 26 → p212 (30 + 2 * kk) h3 x hx → (wrd T n kk p = true ∧ ¬ x = 0 ∧ hx = mx_wi h 381 11 (nI (sk T n p + wl kk)) ∧ sk T n p + wl kk ≤ n) ∨ (¬ wrd T n kk p = true ∧ x = 0 ∧ hx = h3) := by
    intro kk x hx hk u
    rcases R_wd hk u R3 with ⟨q, e, w, ne, eq, eh⟩ | ⟨e, w, ex, eh⟩
    · rw [wrd_sk] at w
      rw [skk] at eq
      refine .inl ⟨w, ne, ?_, (wrd_in hk w).2⟩
      rw [eh, e3, wi_wi, eq]
    · rw [wrd_sk] at w
      rw [skk] at eh
      refine .inr ⟨w, ex, ?_⟩
      rw [eh, wi_id R3.2.2.2.1]
  refine ⟨⟨T, n, _, R3⟩, by omega, fun x8 h9 u9 => ?_⟩
  rcases step (kk := 0) (by decide) u9 with ⟨w, ne, eh, lq⟩ | ⟨w, ex, eh⟩
  · rw [if_pos w] at fin
    have R9 : Rd h9 T n (sk T n p + wl 0) := by rw [eh]; exact Rd_at R lq
    refine ⟨fun c => absurd c ne, fun _ => ⟨⟨T, n, _, R9⟩, by rw [eh]; exact fw _, by rw [eh, mw]; exact ⟨np, hnp, enp⟩, cx2, fun h105 u105 => fin h105 ?_⟩⟩
    have o := u105.2 T n _ np ns (sk T n p) R9 hnp (by rw [eh, mw]; exact enp) ex2 skn
    rw [eh, mw] at o
    have o := outM_at o
    rw [vPer_e]
    have ew : wd T n 0 p = .inr (sk T n p + wl 0) := by unfold wd; exact if_pos w
    rw [ew]
    exact o
  rw [if_neg w] at fin
  rw [eh]
  refine ⟨fun _ => ⟨⟨T, n, _, R3⟩, by omega, fun x15 h16 u16 => ?_⟩, fun c => absurd ex c⟩
  rcases step (kk := 3) (by decide) u16 with ⟨w, ne, eh, lq⟩ | ⟨w, ex, eh⟩
  · rw [if_pos w] at fin
    have R9 : Rd h16 T n (sk T n p + wl 3) := by rw [eh]; exact Rd_at R lq
    refine ⟨fun c => absurd c ne, fun _ => ⟨⟨T, n, _, R9⟩, by rw [eh]; exact fw _, by rw [eh, mw]; exact ⟨np, hnp, enp⟩, by rw [eh, mw]; exact ⟨ns, hns, ens⟩, cx2, fun h97 u97 => fin h97 ?_⟩⟩
    have o := u97.2 T n _ np ns (sk T n p) R9 hnp hns (by rw [eh, mw]; exact enp) (by rw [eh, mw]; exact ens) ex2 skn
    rw [eh, mw] at o
    have o := outM_at o
    rw [vSto_e]
    have ew : wd T n 3 p = .inr (sk T n p + wl 3) := by unfold wd; exact if_pos w
    rw [ew]
    exact o
  rw [if_neg w] at fin
  rw [eh]
  refine ⟨fun _ => ⟨⟨T, n, _, R3⟩, by omega, fun x22 h23 u23 => ?_⟩, fun c => absurd ex c⟩
  rcases step (kk := 23) (by decide) u23 with ⟨w, ne, eh, lq⟩ | ⟨w, ex, eh⟩
  · rw [if_pos w] at fin
    have R9 : Rd h23 T n (sk T n p + wl 23) := by rw [eh]; exact Rd_at R lq
    have f9 : mx_i h23 381 12 = -1 := by rw [eh]; exact fw _
    unfold vSlo at fin
    refine ⟨fun c => absurd c ne, fun _ => ⟨⟨T, n, _, R9⟩, fun x77 h78 u78 => ?_⟩⟩
    rcases R_nb u78 f9 R9 with ⟨v1, q1, e1, ex1, eh1⟩ | ⟨e1, q1, hq1, eh1⟩
    · rw [eh, wi_wi] at eh1
      obtain ⟨r1, l1, k1⟩ := nb_pr lq e1
      have R78 : Rd h78 T n q1 := by rw [eh1]; exact Rd_at R k1
      have f78 : mx_i h78 381 12 = -1 := by rw [eh1]; exact fw _
      refine ⟨⟨T, n, _, R78⟩, fun x82 h83 u83 => ?_⟩
      simp only [bnd, e1] at fin
      rcases R_nb u83 f78 R78 with ⟨v2, q2, e2, ex2', eh2⟩ | ⟨e2, q2, hq2, eh2⟩
      · rw [eh1, wi_wi] at eh2
        obtain ⟨r2, l2, k2⟩ := nb_pr k1 e2
        simp only [e2] at fin
        obtain ⟨m, hm, em⟩ := isR_N (B := 11) (by decide) r1
        have f83 : mx_i h83 381 12 = -1 := by rw [eh2]; exact fw _
        have e9 : (9 : Int32) + x77 = nI (9 + m) := by rw [ex1, em, show (9 : Int32) = nI 9 from rfl, nI_add]
        refine ⟨fun _ => ⟨by rw [e9]; exact vp_in_nI (by omega) (by decide), fun h88 e88 => fin h88 ?_⟩, fun c => absurd f83 c⟩
        rw [e9, nI_clamp (by omega), ex2'] at e88
        rw [em, nI_clamp (by omega)]
        refine ⟨by rw [e88, eh2]; exact mxK_tr mxK_wi mxK_wi, fun b b1 b2 => by rw [e88, wi_ne b2, eh2, wi_ne b1], ?_, fun z hz => by rw [e88, wi_ne (by decide), eh2, wi_nj hz], q2, k2, rfl, by rw [e88, wi_ne (by decide), eh2, wi_at rfl rfl]⟩
        rw [e88, m_wi, eh2, mw]
      · rw [eh1, wi_wi] at eh2
        simp only [e2] at fin
        have b83 : bad h n (sk T n q1) h83 := ⟨q2, hq2, eh2⟩
        have := sk_le (T := T) k1
        have nf : ¬ mx_i h83 381 12 = -1 := bad_f (by omega) b83
        exact ⟨fun c => absurd c nf, fun _ => fin _ b83⟩
    · rw [eh, wi_wi] at eh1
      simp only [bnd, e1] at fin
      have b78 : bad h n (sk T n (sk T n p + wl 23)) h78 := ⟨q1, hq1, eh1⟩
      have := sk_le (T := T) lq
      have nf : ¬ mx_i h78 381 12 = -1 := bad_f (by omega) b78
      refine ⟨bad_R R b78, fun x82 h83 u83 => ?_⟩
      have i83 : h83 = h78 := (u83.2.1 nf).2
      rw [i83]
      exact ⟨fun c => absurd c nf, fun _ => fin _ b78⟩
  rw [if_neg w] at fin
  rw [eh]
  refine ⟨fun _ => ⟨⟨T, n, _, R3⟩, by omega, fun x29 h30 u30 => ?_⟩, fun c => absurd ex c⟩
  rcases step (kk := 8) (by decide) u30 with ⟨w, ne, eh, lq⟩ | ⟨w, ex, eh⟩
  · rw [if_pos w] at fin
    have R9 : Rd h30 T n (sk T n p + wl 8) := by rw [eh]; exact Rd_at R lq
    have f9 : mx_i h30 381 12 = -1 := by rw [eh]; exact fw _
    unfold vPor at fin
    refine ⟨fun c => absurd c ne, fun _ => ⟨⟨T, n, _, R9⟩, fun x67 h68 u68 => ?_⟩⟩
    rcases R_nb u68 f9 R9 with ⟨v1, q1, e1, ex1, eh1⟩ | ⟨e1, q1, hq1, eh1⟩
    · rw [eh, wi_wi] at eh1
      obtain ⟨r1, l1, k1⟩ := nb_pr lq e1
      simp only [bnd, e1] at fin
      obtain ⟨m, hm, em⟩ := isR_N (B := 11) (by decide) r1
      have f68 : mx_i h68 381 12 = -1 := by rw [eh1]; exact fw _
      have e21 : (21 : Int32) + x67 = nI (21 + m) := by rw [ex1, em, show (21 : Int32) = nI 21 from rfl, nI_add]
      refine ⟨fun _ => ⟨by rw [e21]; exact vp_in_nI (by omega) (by decide), fun h73 e73 => fin h73 ?_⟩, fun c => absurd f68 c⟩
      rw [e21, nI_clamp (by omega)] at e73
      rw [em, nI_clamp (by omega)]
      refine ⟨by rw [e73, eh1]; exact mxK_tr mxK_wi mxK_wi, fun b b1 b2 => by rw [e73, wi_ne b2, eh1, wi_ne b1], ?_, fun z hz => by rw [e73, wi_ne (by decide), eh1, wi_nj hz], q1, k1, rfl, by rw [e73, wi_ne (by decide), eh1, wi_at rfl rfl]⟩
      rw [e73, m_wi, eh1, mw]
    · rw [eh, wi_wi] at eh1
      simp only [bnd, e1] at fin
      have b68 : bad h n (sk T n (sk T n p + wl 8)) h68 := ⟨q1, hq1, eh1⟩
      have := sk_le (T := T) lq
      have nf : ¬ mx_i h68 381 12 = -1 := bad_f (by omega) b68
      exact ⟨fun c => absurd c nf, fun _ => fin _ b68⟩
  rw [if_neg w] at fin
  rw [eh]
  refine ⟨fun _ => ⟨⟨T, n, _, R3⟩, by omega, fun x36 h37 u37 => ?_⟩, fun c => absurd ex c⟩
  rcases step (kk := 9) (by decide) u37 with ⟨w, ne, eh, lq⟩ | ⟨w, ex, eh⟩
  · rw [if_pos w] at fin
    have R9 : Rd h37 T n (sk T n p + wl 9) := by rw [eh]; exact Rd_at R lq
    refine ⟨fun c => absurd c ne, fun _ => ⟨⟨T, n, _, R9⟩, by rw [eh]; exact fw _, ⟨6, by omega, rfl⟩, fun h63 u63 => fin h63 ?_⟩⟩
    have o := u63.2 T n _ np ns 6 R9 (by omega) rfl
    rw [eh, mw] at o
    exact outM_at o
  rw [if_neg w] at fin
  rw [eh]
  refine ⟨fun _ => ⟨⟨T, n, _, R3⟩, by omega, fun x43 h44 u44 => ?_⟩, fun c => absurd ex c⟩
  rcases step (kk := 25) (by decide) u44 with ⟨w, ne, eh, lq⟩ | ⟨w, ex, eh⟩
  · rw [if_pos w] at fin
    have R9 : Rd h44 T n (sk T n p + wl 25) := by rw [eh]; exact Rd_at R lq
    refine ⟨fun c => absurd c ne, fun _ => ⟨⟨T, n, _, R9⟩, by rw [eh]; exact fw _, ⟨5, by omega, rfl⟩, fun h56 u56 => fin h56 ?_⟩⟩
    have o := u56.2 T n _ np ns 5 R9 (by omega) rfl
    rw [eh, mw] at o
    exact outM_at o
  rw [if_neg w] at fin
  rw [eh]
  refine ⟨fun _ h48 e48 => fin h48 ?_, fun c => absurd ex c⟩
  have f3 : mx_i h3 381 12 = -1 := by rw [e3]; exact fw _
  rw [W213f f3, e3, wi_at rfl rfl] at e48
  exact ⟨_, skn, e48⟩
/-- counts of a row -/
def wk (r : Nat → Int32) (np ns : Nat) : Prop := np ≤ 6 ∧ ns ≤ 10 ∧ r 3 = nI np ∧ r 4 = nI ns
def keepR (r r' : Nat → Int32) : Prop := ∀ k, k < 3 ∨ k = 7 ∨ k = 8 ∨ 129 ≤ k → r' k = r k
theorem vLn_wk {T : Nat → Int32} {n p q np ns np' ns' : Nat} {r r' : Nat → Int32} (hp : p ≤ n) (w : wk r np ns) (h : vLn T n r np ns p = .inr (r', np', ns', q)) : wk r' np' ns' ∧ q ≤ n ∧ keepR r r' := by
  obtain ⟨w1, w2, w3, w4⟩ := w
  have bi : ∀ {α β : Type} {x : Sum Nat α} {f : α → Sum Nat β} {b : β}, bnd x f = .inr b → ∃ a, x = .inr a ∧ f a = .inr b := by
    intro α β x f b h
    cases x with
    | inl e => cases h
    | inr a => exact ⟨a, rfl, h⟩
  have one : ∀ (k : Nat) (v : Int32), (k = 5 ∨ k = 6 ∨ (9 ≤ k ∧ k < 33)) → wk (rs r k v) np ns ∧ keepR r (rs r k v) := fun k v hk => ⟨⟨w1, w2, by rw [rs_ne (by omega)]; exact w3, by rw [rs_ne (by omega)]; exact w4⟩, fun j hj => rs_ne (by omega)⟩
  unfold vLn at h
  split at h
  · split at h
    · cases h
    · rename_i c6
      unfold vPer at h
      obtain ⟨p0, b0, h⟩ := bi h
      obtain ⟨x1, b1, h⟩ := bi h
      obtain ⟨p2, b2, h⟩ := bi h
      obtain ⟨x3, b3, h⟩ := bi h
      obtain ⟨p4, b4, h⟩ := bi h
      obtain ⟨x5, b5, h⟩ := bi h
      have k5 := (nb_pr (wd_pr (by decide) b4).2 (show nb T n 0 11 p4 = .inr (x5.1, x5.2) from b5)).2.2
      have key : ∀ a b c g : Int32, wk (perR r np a b c g) (np + 1) ns ∧ keepR r (perR r np a b c g) := fun a b c g => ⟨⟨by omega, w2, perR_3, by rw [perR_n (by omega) (by omega)]; exact w4⟩, fun k hk => perR_n (by omega) (by omega)⟩
      split at h
      · rename_i w
        obtain ⟨x6, b6, h⟩ := bi h
        have k6 := (nb_pr (wrd_in (by decide) w).2 (show nb T n 0 11 _ = .inr (x6.1, x6.2) from b6)).2.2
        cases h
        exact ⟨(key _ _ _ _).1, k6, (key _ _ _ _).2⟩
      · cases h
        exact ⟨(key _ _ _ _).1, k5, (key _ _ _ _).2⟩
  · split at h
    · split at h
      · cases h
      · rename_i c10
        unfold vSto at h
        obtain ⟨p0, b0, h⟩ := bi h
        obtain ⟨x1, b1, h⟩ := bi h
        obtain ⟨p2, b2, h⟩ := bi h
        obtain ⟨x3, b3, h⟩ := bi h
        obtain ⟨p4, b4, h⟩ := bi h
        obtain ⟨x5, b5, h⟩ := bi h
        have k5 := (nbx_pr w1 (wd_pr (by decide) b4).2 (show nbx T n np x3.1 p4 = .inr (x5.1, x5.2) from b5)).2.2.2
        have key : ∀ a b c g : Int32, wk (stoR r ns a b c g) np (ns + 1) ∧ keepR r (stoR r ns a b c g) := fun a b c g => ⟨⟨w1, by omega, by rw [stoR_n (by omega) (by omega)]; exact w3, stoR_4⟩, fun k hk => stoR_n (by omega) (by omega)⟩
        split at h
        · rename_i w
          obtain ⟨p6, b6, h⟩ := bi h
          obtain ⟨x7, b7, h⟩ := bi h
          have k7 := (nbx_pr w1 (wd_pr (by decide) b6).2 (show nbx T n np x5.1 p6 = .inr (x7.1, x7.2) from b7)).2.2.2
          cases h
          exact ⟨(key _ _ _ _).1, k7, (key _ _ _ _).2⟩
        · cases h
          exact ⟨(key _ _ _ _).1, k5, (key _ _ _ _).2⟩
    · split at h
      · rename_i w
        unfold vSlo at h
        obtain ⟨x1, b1, h⟩ := bi h
        obtain ⟨x2, b2, h⟩ := bi h
        obtain ⟨r1, l1, k1⟩ := nb_pr (wrd_in (by decide) w).2 (show nb T n 0 11 _ = .inr (x1.1, x1.2) from b1)
        have k2 := (nb_pr k1 (show nb T n 0 3 _ = .inr (x2.1, x2.2) from b2)).2.2
        obtain ⟨m, hm, em⟩ := isR_N (B := 11) (by decide) r1
        cases h
        rw [em, nI_clamp (by omega)]
        have := one (9 + m) x2.1 (by omega)
        exact ⟨this.1, k2, this.2⟩
      · split at h
        · rename_i w
          unfold vPor at h
          obtain ⟨x1, b1, h⟩ := bi h
          obtain ⟨r1, l1, k1⟩ := nb_pr (wrd_in (by decide) w).2 (show nb T n 0 11 _ = .inr (x1.1, x1.2) from b1)
          obtain ⟨m, hm, em⟩ := isR_N (B := 11) (by decide) r1
          cases h
          rw [em, nI_clamp (by omega)]
          have := one (21 + m) 1 (by omega)
          exact ⟨this.1, k1, this.2⟩
        · split at h
          · rename_i w
            unfold vLim vTel at h
            obtain ⟨x1, b1, h⟩ := bi h
            have k1 := (nb_pr (wrd_in (by decide) w).2 (show nb T n 1 99 _ = .inr (x1.1, x1.2) from b1)).2.2
            cases h
            have := one 6 x1.1 (by omega)
            exact ⟨this.1, k1, this.2⟩
          · split at h
            · rename_i w
              unfold vHou vTel at h
              obtain ⟨x1, b1, h⟩ := bi h
              have k1 := (nb_pr (wrd_in (by decide) w).2 (show nb T n 0 999 _ = .inr (x1.1, x1.2) from b1)).2.2
              cases h
              have := one 5 x1.1 (by omega)
              exact ⟨this.1, k1, this.2⟩
            · cases h
