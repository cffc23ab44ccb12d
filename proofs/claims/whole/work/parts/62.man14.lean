/-! SPECS by hand, 14: the class's text of the law; its tokens -/
def pLs (T : Nat → Int32) (n : Nat) : Nat → Nat → Sum Nat (List LL)
  | 0, p => .inl (sk T n p)
  | j + 1, p => match pLine T n p with
    | .inl e => .inl e
    | .inr (L, q) => if sk T n q < n then (if sgn T n 59 q = true then (match pLs T n j (sk T n q + 1) with
        | .inl e => .inl e
        | .inr M => .inr (L :: M)) else .inl (sk T n q)) else .inr [L]
def pLaw (T : Nat → Int32) (n : Nat) : Sum Nat (List LL) := if sk T n 0 < n then pLs T n 12 0 else .inr []
def frE (b : Nat) (h h1 : mxH) : Prop := mxU (fun c => c = 101 ∨ c = 107 ∨ c = 108 ∨ (b ≤ c ∧ c ≤ b + 4)) h h1 ∧ (∀ j, j ≠ 3 → mx_i h1 101 j = mx_i h 101 j)
def outT (b : Nat) (T : Nat → Int32) (n : Nat) (r : Sum Nat (List LL)) (x : Int32) (h1 : mxH) : Prop := match r with
  | .inl e => x = 0 ∧ ∃ p, Cl h1 T n p ∧ sk T n p = e
  | .inr M => x = 1 ∧ Li h1 b M ∧ mx_i h1 b 0 = 1 ∧ ∃ p, Cl h1 T n p
theorem V93_ob {h : mxH} {T : Nat → Int32} {n p : Nat} (C : Cl h T n p) : vp_in (mx_i h 101 3) 401 := (V97_ob C).1
theorem H30 {d b n : Nat} {T : Nat → Int32} {h0 : mxH} {Q : mxO → mxH → Prop} {R : Sum Nat (List LL)} (hVb : (mxT b).1 = 3) (k : ∀ x h1, frE b h0 h1 → outT b T n R x h1 → Q (.inl (some (.int x))) h1) : ∀ (j p : Nat) (Ls : List LL) (h : mxH), j + Ls.length = 12 → mxG h → Cl h T n p → p ≤ n → Li h b Ls → (cdL Ls).length ≤ p → mx_i h b 0 = 1 → frE b h0 h → (match pLs T n j p with
    | .inl e => .inl e
    | .inr M => .inr (Ls ++ M)) = R → H_30_9 (d + 6) h b (nI Ls.length) Q := by
  have hb := mxT3 hVb
  intro j
  induction j with
  | zero =>
    intro p Ls h hj G C hpn S hol h1 F hR
    have hR : Sum.inl (sk T n p) = R := hR
    refine tr_30_9 G hVb ⟨fun c => absurd ((nI_ltI (b := 12) (by omega) (by decide)).mp c) (by omega), fun _ => k _ _ F ?_⟩
    rw [← hR]
    exact ⟨rfl, p, C, rfl⟩
  | succ j ih =>
    intro p Ls h hj G C hpn S hol h1 F hR
    have hn := Cl_n C
    refine tr_30_9 G hVb ⟨fun _ => ⟨⟨(T, n, p, Ls), C, hpn, S, hol, by show Ls.length < 12; omega⟩, fun x3 h4 u4 => ?_⟩, fun c => absurd (show nI Ls.length < 12 from nI_lt (b := 12) (by omega) (by decide)) c⟩
    have z := u4.2 T n p Ls C hpn S hol (by omega)
    have F4 : frE b h0 h4 := ⟨mxU_tr F.1 u4.1.1, fun j hj => (u4.1.2.1 j hj).trans (F.2 j hj)⟩
    have G4 := mxU_G u4.1.1 G
    have e1 : mx_i h4 b 0 = 1 := u4.1.2.2.trans h1
    unfold pLs at hR
    match hl : pLine T n p with
    | .inl e =>
      rw [hl] at z hR
      have hR : Sum.inl e = R := hR
      refine ⟨fun _ => k _ _ F4 ?_, fun c => absurd z.1 c⟩
      rw [← hR]
      exact ⟨rfl, z.2⟩
    | .inr (L, q) =>
      rw [hl] at z hR
      obtain ⟨z1, z2, z3⟩ := z
      have lp := pLine_pr hn hpn hl
      have gq := sk_ge (T := T) (n := n) q
      have ll : (Ls ++ [L]).length = Ls.length + 1 := by simp
      have lc : (cdL (Ls ++ [L])).length = (cdL Ls).length + L.2.2.length := by
        rw [cdL_app, List.length_append]
        show _ + (L.2.2 ++ []).length = _
        rw [List.append_nil]
      refine ⟨fun c => absurd (z1.symm.trans c) (by decide), fun _ => ⟨V93_ob z2, ?_⟩⟩
      rw [V93_i z2]
      by_cases c : sk T n q < n
      · rw [if_pos c]
        simp only [if_pos c] at hR
        refine ⟨fun _ => ⟨⟨T, n, q, z2⟩, fun x11 h12 u12 => ?_⟩, fun y => absurd rfl y⟩
        have F12 : frE b h0 h12 := by
          have := frD_mv hb u12.1
          exact ⟨mxU_tr F4.1 this.1, fun j hj => (this.2.1 j hj).trans (F4.2 j hj)⟩
        rcases u12.2 T n q z2 (by unfold isSg; decide) with ⟨y1, y2, y3, y4⟩ | ⟨y1, y2, y3⟩
        · have sg : sgn T n 59 q = true := decide_eq_true ⟨y1, y2⟩
          simp only [if_pos sg] at hR
          refine ⟨fun w => absurd (y3.symm.trans w) (by decide), fun _ => ?_⟩
          rw [nI_1, ← ll]
          refine ih (sk T n q + 1) (Ls ++ [L]) h12 (by omega) (mxK_G (mvC_K u12.1) G4) y4 (by omega) (Li_mv hb u12.1 z3) (by omega) ?_ F12 ?_
          · exact ((frD_mv hb u12.1).2.2).trans e1
          · rw [← hR]
            match pLs T n j (sk T n q + 1) with
            | .inl e => rfl
            | .inr M => show Sum.inr (Ls ++ [L] ++ M) = Sum.inr (Ls ++ (L :: M)); simp
        · have sg : ¬ sgn T n 59 q = true := fun w => y1 (sgn_in w)
          simp only [if_neg sg] at hR
          refine ⟨fun _ => k _ _ F12 ?_, fun w => absurd y2 w⟩
          have hR : Sum.inl (sk T n q) = R := hR
          rw [← hR, y3]
          exact ⟨rfl, q, z2, rfl⟩
      · rw [if_neg c]
        simp only [if_neg c] at hR
        refine ⟨fun y => absurd y (by decide), fun _ => k _ _ F4 ?_⟩
        have hR : Sum.inr (Ls ++ [L]) = R := hR
        rw [← hR]
        exact ⟨rfl, z3, e1, q, z2⟩
def p30 (b : Nat) (h : mxH) (x : Int32) (h1 : mxH) : Prop := frE b h h1 ∧ ∀ T n, Cl h T n 0 → outT b T n (pLaw T n) x h1
theorem sp_30 {d b : Nat} {h : mxH} {Q : mxO → mxH → Prop} (G : mxG h) (hVb : (mxT b).1 = 3) (ok : ∃ T n, Cl h T n 0) (k : ∀ x h1, p30 b h x h1 → Q (.inl (some (.int x))) h1) : mx_wp (d + 6) 30 0 (mx_fr 30 [.ref 107, .ref 101, .ref b]) [] h Q := by
  have hb := mxT3 hVb
  obtain ⟨T0, n0, C0⟩ := ok
  refine all_mut (α := (Nat → Int32) × Nat) (P := fun a => Cl h a.1 a.2 0) (F := frE b h) (R := fun a x h1 => outT b a.1 a.2 (pLaw a.1 a.2) x h1) ⟨(T0, n0), C0⟩ (fun a C => ?_) (fun x h1 f r => k x h1 ⟨f, fun T n C => r (T, n) C⟩)
  obtain ⟨T, n⟩ := a
  have C : Cl h T n 0 := C
  refine tr_30_0 G hVb (fun h1 e1 => ?_)
  have U1 : mxU (fun c => c = b) h h1 := by
    rw [e1]; unfold W_21
    exact mxU_tr (mxU_tr (mxU_wi rfl) (mxU_wi rfl)) (mxU_wi rfl)
  have C1 : Cl h1 T n 0 := Cl_U U1 (fun c _ _ => by omega) C
  have F1 : frE b h h1 := ⟨mxU_mono (fun c hc => by omega) U1, fun j _ => by rw [mxU_i U1 (by omega)]⟩
  have i0 : mx_i h1 b 0 = 1 := by rw [e1]; unfold W_21; rw [wi_nj (by decide), wi_nj (by decide), wi_at rfl rfl]
  have S1 : Li h1 b [] := by
    refine ⟨?_, fun i hi => absurd hi (by simp), ?_, fun i hi => absurd hi (by simp [cdL])⟩
    · rw [e1]; unfold W_21; rw [wi_nj (by decide), wi_at rfl rfl]; rfl
    · rw [e1]; unfold W_21; rw [wi_at rfl rfl]; rfl
  refine ⟨V93_ob C1, ?_⟩
  rw [V93_i C1]
  by_cases c : sk T n 0 < n
  · rw [if_pos c]
    refine ⟨fun _ => ?_, fun y => absurd rfl y⟩
    refine H30 (R := pLaw T n) hVb (fun x h1 f r => ⟨x, rfl, f, r⟩) 12 0 [] h1 rfl (mxU_G U1 G) C1 (Nat.zero_le _) S1 (Nat.zero_le _) i0 F1 ?_
    unfold pLaw
    rw [if_pos c]
    match pLs T n 12 0 with
    | .inl e => rfl
    | .inr M => rfl
  · rw [if_neg c]
    refine ⟨fun y => absurd y (by decide), fun _ => ⟨1, rfl, F1, ?_⟩⟩
    show outT b T n (pLaw T n) 1 h1
    unfold pLaw
    rw [if_neg c]
    exact ⟨rfl, S1, i0, 0, C1⟩
/-! the class cuts its tape into tokens -/
def kq (x : Int32) : Int32 := if isSp x = true then 0 else if isDg x = true then 2 else if isLt x = true then 3 else 1
theorem v89b : ∀ k, k < 256 → (if (nI k).toInt8.toInt32 = 32 then (0 : Int32) else (if (nI k).toInt8.toInt32 < 48 then ((if (nI k).toInt8.toInt32 < 97 then 1 else (if 122 < (nI k).toInt8.toInt32 then 1 else 3)) : Int32) else (if 57 < (nI k).toInt8.toInt32 then ((if (nI k).toInt8.toInt32 < 97 then 1 else (if 122 < (nI k).toInt8.toInt32 then 1 else 3)) : Int32) else 2))) = kq (nI k) := by decide +kernel
theorem V89_i {h : mxH} {x : Int32} (r : isR x 0 255) : V_89 h x.toInt8.toInt32 = kq x := by
  obtain ⟨k, hk, rfl⟩ := r255 r
  exact v89b k hk
/-- the last token so far: still growing, or closed -/
def lastT (h : mxH) (T : Nat → Int32) (n i L u : Nat) (bf : Int32) : Prop := (bf = 2 ∧ isDg (T L) = true ∧ te T n L = rn isDg T n i ∧ L < i ∧ mx_i h 105 u = nI (i - L)) ∨ (bf = 3 ∧ ¬ isDg (T L) = true ∧ isLt (T L) = true ∧ te T n L = rn isLt T n i ∧ L < i ∧ mx_i h 105 u = nI (i - L)) ∨ ((bf = 0 ∨ bf = 1) ∧ te T n L ≤ i ∧ sk T n (te T n L) = sk T n i ∧ mx_i h 105 u = nI (te T n L - L))
def Ck (h : mxH) (T : Nat → Int32) (n i t : Nat) (bf : Int32) : Prop := t ≤ i ∧ mx_i h 101 1 = nI n ∧ mx_i h 101 2 = nI t ∧ Tx h T n ∧ (∀ s, s < t → mx_i h 104 s = nI (tb T n s) ∧ mx_i h 103 s = kd T n (tb T n s) ∧ tb T n s < n) ∧ (∀ s, s + 1 < t → mx_i h 105 s = nI (te T n (tb T n s) - tb T n s)) ∧ ((t = 0 ∧ bf = 0 ∧ sk T n 0 = sk T n i) ∨ ∃ u, t = u + 1 ∧ lastT h T n i (tb T n u) u bf)
theorem kq_kd {T : Nat → Int32} {n i : Nat} (hi : i < n) (h : ¬ isSp (T i) = true) : kd T n i = kq (T i) := by
  unfold kd kq
  rw [if_pos hi, if_neg h]
theorem lt_nd {x : Int32} (h : isLt x = true) : ¬ isDg x = true := by
  intro c
  have c := of_decide_eq_true c
  have l := of_decide_eq_true h
  have l1 := l.1
  have c2 := c.2
  grind
theorem sp_nd {x : Int32} (h : isSp x = true) : ¬ isDg x = true ∧ ¬ isLt x = true := by
  have h : x = 32 := of_decide_eq_true h
  subst h
  decide
/-- where the next token would begin -/
theorem Ck_nx {h : mxH} {T : Nat → Int32} {n i t : Nat} {bf : Int32} (K : Ck h T n i t bf) (e2 : bf = 2 → ¬ (i < n ∧ isDg (T i) = true)) (e3 : bf = 3 → ¬ (i < n ∧ isLt (T i) = true)) : tb T n t = sk T n i ∧ ∀ u, t = u + 1 → mx_i h 105 u = nI (te T n (tb T n u) - tb T n u) := by
  obtain ⟨-, -, -, -, -, -, K⟩ := K
  rcases K with ⟨rfl, -, e⟩ | ⟨u, rfl, L⟩
  · exact ⟨e, fun u h => by omega⟩
  · rcases L with ⟨rfl, a1, a2, a3, a4⟩ | ⟨rfl, a0, a1, a2, a3, a4⟩ | ⟨-, a1, a2, a3⟩
    · have := rn_n (e2 rfl)
      rw [this] at a2
      refine ⟨?_, fun v hv => ?_⟩
      · show sk T n (te T n (tb T n u)) = _
        rw [a2]
      · obtain rfl : v = u := by omega
        rw [a4, a2]
    · have := rn_n (e3 rfl)
      rw [this] at a2
      refine ⟨?_, fun v hv => ?_⟩
      · show sk T n (te T n (tb T n u)) = _
        rw [a2]
      · obtain rfl : v = u := by omega
        rw [a4, a2]
    · refine ⟨a2, fun v hv => ?_⟩
      obtain rfl : v = u := by omega
      exact a3
theorem Tx_U {h h1 : mxH} {T : Nat → Int32} {n : Nat} {P : Nat → Prop} (u : mxU P h h1) (hp : ¬ P 102) (X : Tx h T n) : Tx h1 T n := by
  obtain ⟨x1, x2, x3, x4⟩ := X
  refine ⟨x1, x2, x3, fun k hk => ?_⟩
  rw [mxU_i u hp]; exact x4 k hk
/-- a new token at i -/
theorem Ck_add {h h1 : mxH} {T : Nat → Int32} {n i t : Nat} {bf : Int32} (hi : i < n) (K : Ck h T n i t bf) (e2 : bf = 2 → ¬ (i < n ∧ isDg (T i) = true)) (e3 : bf = 3 → ¬ (i < n ∧ isLt (T i) = true)) (hs : ¬ isSp (T i) = true) (u : p90 (kq (T i)) (nI i) h h1) : Ck h1 T n (i + 1) (t + 1) (kq (T i)) := by
  obtain ⟨n1, n2⟩ := Ck_nx K e2 e3
  have ei : sk T n i = i := rn_n (fun c => hs c.2)
  rw [ei] at n1
  obtain ⟨k1, k2, k3, k4, k5, k6, -⟩ := K
  have hn := k4.1
  obtain ⟨u1, u2, u3⟩ := u
  obtain ⟨a1, a2, a3, a4⟩ := u3 t (by omega) k3
  refine ⟨by omega, by rw [u2 1 (by decide)]; exact k2, a1, Tx_U u1 (by omega) k4, fun s hs' => ?_, fun s hs' => ?_, .inr ⟨t, rfl, ?_⟩⟩
  · rw [a2, a3]
    by_cases z : s = t
    · subst z
      rw [if_pos rfl, if_pos rfl, n1]
      exact ⟨rfl, (kq_kd hi hs).symm, hi⟩
    · rw [if_neg z, if_neg z]; exact k5 s (by omega)
  · rw [a4, if_neg (by omega)]
    by_cases z : s + 1 < t
    · exact k6 s z
    · exact n2 s (by omega)
  · rw [n1]
    unfold lastT
    rw [a4, if_pos rfl]
    have one : (1 : Int32) = nI (i + 1 - i) := by rw [show i + 1 - i = 1 by omega]; rfl
    by_cases d : isDg (T i) = true
    · refine .inl ⟨?_, d, ?_, by omega, one⟩
      · unfold kq; rw [if_neg hs, if_pos d]
      · unfold te; rw [if_pos d, rn_y hi d]
    · by_cases l : isLt (T i) = true
      · refine .inr (.inl ⟨?_, d, l, ?_, by omega, one⟩)
        · unfold kq; rw [if_neg hs, if_neg d, if_pos l]
        · unfold te; rw [if_neg d, if_pos l, rn_y hi l]
      · have et : te T n i = i + 1 := by unfold te; rw [if_neg d, if_neg l]
        refine .inr (.inr ⟨.inr ?_, by omega, by rw [et], by rw [et]; exact one⟩)
        unfold kq; rw [if_neg hs, if_neg d, if_neg l]
/-- a blank -/
theorem Ck_sp {h : mxH} {T : Nat → Int32} {n i t : Nat} {bf : Int32} (hi : i < n) (K : Ck h T n i t bf) (hs : isSp (T i) = true) : Ck h T n (i + 1) t 0 := by
  have nd := sp_nd hs
  obtain ⟨n1, n2⟩ := Ck_nx K (fun _ c => nd.1 c.2) (fun _ c => nd.2 c.2)
  have es : sk T n i = sk T n (i + 1) := rn_y hi hs
  obtain ⟨k1, k2, k3, k4, k5, k6, K⟩ := K
  refine ⟨by omega, k2, k3, k4, k5, k6, ?_⟩
  rcases K with ⟨rfl, -, e⟩ | ⟨u, rfl, L⟩
  · exact .inl ⟨rfl, rfl, e.trans es⟩
  · refine .inr ⟨u, rfl, .inr (.inr ⟨.inl rfl, ?_, n1.trans es, n2 u rfl⟩)⟩
    rcases L with ⟨-, a1, a2, a3, a4⟩ | ⟨-, a0, a1, a2, a3, a4⟩ | ⟨-, a1, a2, a3⟩
    · rw [a2, rn_n (fun c => nd.1 c.2)]; omega
    · rw [a2, rn_n (fun c => nd.2 c.2)]; omega
    · omega
/-- the last token grows -/
theorem Ck_gr {h : mxH} {T : Nat → Int32} {n i u : Nat} {bf : Int32} (hi : i < n) (K : Ck h T n i (u + 1) bf) (hb : (bf = 2 ∧ isDg (T i) = true) ∨ (bf = 3 ∧ isLt (T i) = true)) : Ck (mx_wi h 105 u (mx_i h 105 u + 1)) T n (i + 1) (u + 1) bf := by
  obtain ⟨k1, k2, k3, k4, k5, k6, K⟩ := K
  have hn := k4.1
  refine ⟨by omega, by rw [wi_ne (by decide)]; exact k2, by rw [wi_ne (by decide)]; exact k3, Tx_U (P := fun c => c = 105) (mxU_wi rfl) (by decide) k4, fun s hs => ?_, fun s hs => ?_, .inr ⟨u, rfl, ?_⟩⟩
  · rw [wi_ne (by decide), wi_ne (by decide)]; exact k5 s hs
  · rw [wi_nj (by omega)]; exact k6 s hs
  · rcases K with ⟨e, -⟩ | ⟨v, ev, L⟩
    · omega
    · obtain rfl : v = u := by omega
      unfold lastT
      rw [wi_at rfl rfl]
      rcases L with ⟨rfl, a1, a2, a3, a4⟩ | ⟨rfl, a0, a1, a2, a3, a4⟩ | ⟨e, -⟩
      · refine .inl ⟨rfl, a1, ?_, by omega, by rw [a4, nI_1, show i - tb T n v + 1 = i + 1 - tb T n v by omega]⟩
        rcases hb with ⟨-, q⟩ | ⟨q, -⟩
        · rw [a2, rn_y hi q]
        · exact absurd q (by decide)
      · refine .inr (.inl ⟨rfl, a0, a1, ?_, by omega, by rw [a4, nI_1, show i - tb T n v + 1 = i + 1 - tb T n v by omega]⟩)
        rcases hb with ⟨q, -⟩ | ⟨-, q⟩
        · exact absurd q (by decide)
        · rw [a2, rn_y hi q]
      · rcases hb with ⟨q, -⟩ | ⟨q, -⟩ <;> rw [q] at e <;> exact absurd e (by decide)
/-- all tokens, without words yet -/
def Tks (h : mxH) (T : Nat → Int32) (n m : Nat) : Prop := m ≤ n ∧ Tx h T n ∧ mx_i h 101 1 = nI n ∧ mx_i h 101 2 = nI (m + 1) ∧ mx_i h 101 3 = 0 ∧ ∀ s, s ≤ m → Tk1 h T n m s
def fr88 (h h1 : mxH) : Prop := agr (fun b => b = 101 ∨ b = 103 ∨ b = 104 ∨ b = 105) h h1 ∧ (mx_x h1 = mx_x h ∧ mx_n h1 = mx_n h ∧ mx_l h1 = mx_l h) ∧ (∀ j, j ≠ 2 → j ≠ 3 → mx_i h1 101 j = mx_i h 101 j)
theorem fr88_rfl {h : mxH} : fr88 h h := ⟨agr_rfl, ⟨rfl, rfl, rfl⟩, fun _ _ _ => rfl⟩
theorem fr88_tr {h h1 h2 : mxH} (u : fr88 h h1) (w : fr88 h1 h2) : fr88 h h2 := ⟨agr_tr u.1 w.1, ⟨w.2.1.1.trans u.2.1.1, w.2.1.2.1.trans u.2.1.2.1, w.2.1.2.2.trans u.2.1.2.2⟩, fun j a b => (w.2.2 j a b).trans (u.2.2 j a b)⟩
theorem fr88_U {h h1 : mxH} (u : mxU (fun c => c = 101 ∨ c = 103 ∨ c = 104 ∨ c = 105) h h1) (o : ∀ j, j ≠ 2 → j ≠ 3 → mx_i h1 101 j = mx_i h 101 j) : fr88 h h1 := ⟨agr_U u, ⟨u.2.1, u.2.2.1, u.2.2.2.2.1⟩, o⟩
theorem W88 {d n m : Nat} {T : Nat → Int32} {h0 : mxH} {Q : mxO → mxH → Prop} (k : ∀ h1, fr88 h0 h1 → Cl h1 T n 0 → Q (.inl none) h1) : ∀ (j s : Nat) (h : mxH), j + s = m + 1 → mxG h → Tks h T n m → (∀ r, r < s → Wd1 h T n r) → fr88 h0 h → H_88_61 (d + 6) h (nI s) Q := by
  intro j
  induction j with
  | zero =>
    intro s h hs G K W F
    obtain ⟨k1, k2, k3, k4, k5, k6⟩ := K
    have hn := k2.1
    refine tr_88_61 G ⟨fun c => ?_, fun _ => k h F ⟨k2, m, 0, k1, Nat.zero_le _, k5, rfl, fun r hr => ⟨k6 r hr, W r (by omega)⟩⟩⟩
    rw [k4] at c
    exact absurd ((nI_ltI (by omega) (by omega)).mp c) (by omega)
  | succ j ih =>
    intro s h hs G K W F
    have K0 := K
    obtain ⟨k1, k2, k3, k4, k5, k6⟩ := K
    have hn := k2.1
    have t1 := k6 s (by omega)
    obtain ⟨b1, b2, b3, b4⟩ := t1
    -- the words after this one is written
    have nxt : ∀ x, ((x = 0 ∨ (3 ≤ x ∧ x < 29)) ∧ ∀ q, q < 26 → (isW T n q (tb T n s) = true ↔ x = 3 + q)) → H_88_61 (d + 6) (mx_wr h 106 s x) (nI s + 1) Q := by
      intro x hx
      rw [nI_1]
      have i' : mx_i (mx_wr h 106 s x) = mx_i h := rfl
      have r' : ∀ r, mx_r (mx_wr h 106 s x) 106 r = if r = s then x else mx_r h 106 r := by
        intro r
        show mx_up (mx_r h) 106 s x 106 r = _
        unfold mx_up
        by_cases z : r = s
        · rw [if_pos ⟨rfl, z⟩, if_pos z]
        · rw [if_neg (fun y => z y.2), if_neg z]
      refine ih (s + 1) (mx_wr h 106 s x) (by omega) (mxG_wr_52_0 G) K0 (fun r hr => ?_) (fr88_tr F ⟨⟨rfl, fun b hb => ?_, fun b _ => rfl⟩, ⟨rfl, rfl, rfl⟩, fun _ _ _ => rfl⟩)
      · unfold Wd1
        rw [r']
        by_cases z : r = s
        · rw [if_pos z, z]; exact hx
        · rw [if_neg z]; exact W r (by omega)
      · funext z
        show mx_up (mx_r h) 106 s x b z = _
        unfold mx_up
        rw [if_neg (fun y => hb y.1)]
    have vs : vp_in (nI s) 401 := vp_in_nI (by omega) (by decide)
    have cs : (nI s).toNatClampNeg = s := nI_clamp (by omega)
    refine tr_88_61 G ⟨fun _ => ⟨vs, ?_⟩, fun c => absurd (by rw [k4]; exact nI_lt (by omega) (by omega)) c⟩
    rw [cs, b1, b2, b4]
    refine ⟨fun c => ?_, fun c => ⟨⟨.inl rfl, vs⟩, fun h5 e5 => ?_⟩⟩
    · -- letters
      have hin : tb T n s < n := Decidable.byContradiction (fun y => by unfold kd at c; rw [if_neg y] at c; exact absurd c (by decide))
      have sm := b3.mp hin
      rw [if_pos sm]
      have nd : ¬ isDg (T (tb T n s)) = true := fun y => by unfold kd at c; rw [if_pos hin, if_pos y] at c; exact absurd c (by decide)
      have lt : isLt (T (tb T n s)) = true := Decidable.byContradiction (fun y => by unfold kd at c; rw [if_pos hin, if_neg nd, if_neg y] at c; exact absurd c (by decide))
      have et : te T n (tb T n s) = rn isLt T n (tb T n s) := by unfold te; rw [if_neg nd, if_pos lt]
      have g := te_gt (T := T) hin
      refine ⟨⟨_, by omega, rfl⟩, ⟨_, by omega, rfl⟩, ⟨n, hn, k3⟩, fun x11 h12 u => ?_⟩
      obtain ⟨e12, hx, hw⟩ := u
      refine ⟨⟨hx, vs⟩, fun h16 e16 => ?_⟩
      rw [e16, e12]
      refine nxt x11 ⟨hx, fun q hq => ?_⟩
      rw [hw q hq]
      have sb := (sb_all q hq).1
      have key : mxSl (31 + 2 * q) = te T n (tb T n s) - tb T n s → ∀ i, i < mxSl (31 + 2 * q) → V_87 h (nI (tb T n s) + nI i) = T (tb T n s + i) := by
        intro el i hi
        unfold V_87
        have r := k2.2.2.1 (tb T n s + i)
        obtain ⟨z, hz, ez⟩ := r255 r
        rw [nI_add, if_neg (nI_pos (by omega)), k3, if_pos (nI_lt (by omega) (by omega)), nI_clamp (by omega), k2.2.2.2 _ (by omega), ez]
        exact (b255 z hz).2.2
      constructor
      · intro w
        have w := of_decide_eq_true w
        have el : mxSl (31 + 2 * q) = te T n (tb T n s) - tb T n s := by rw [et]; omega
        refine ⟨by rw [el], ?_⟩
        unfold V_92
        rw [show 30 + 2 * q + 1 = 31 + 2 * q by omega, if_pos (fun i hi => by rw [key el i hi]; exact w.2 i hi)]
      · intro w
        have el : mxSl (31 + 2 * q) = te T n (tb T n s) - tb T n s := (nI_eq (by omega) (by omega)).mp w.1
        apply decide_eq_true
        refine ⟨by rw [← et]; omega, fun i hi => ?_⟩
        have z := w.2
        unfold V_92 at z
        rw [show 30 + 2 * q + 1 = 31 + 2 * q by omega] at z
        have z : ∀ i, i < mxSl (31 + 2 * q) → V_87 h (nI (tb T n s) + nI i) = mxSb (31 + 2 * q) i := Decidable.byContradiction (fun y => by rw [if_neg y] at z; exact absurd z (by decide))
        rw [← key el i hi]
        exact z i hi
    · rw [e5]
      refine nxt 0 ⟨.inl rfl, fun q hq => ⟨fun w => ?_, fun w => by omega⟩⟩
      have i := isW_in hq w
      exfalso
      apply c
      unfold kd
      rw [if_pos i.1, if_neg (lt_nd i.2.1), if_pos i.2.1]
def p88 (h h1 : mxH) : Prop := fr88 h h1 ∧ ∀ T n, Tx h T n → mx_i h 101 1 = nI n → Cl h1 T n 0
theorem K88 {d n : Nat} {T : Nat → Int32} {h0 : mxH} {Q : mxO → mxH → Prop} (k : ∀ h1, fr88 h0 h1 → Cl h1 T n 0 → Q (.inl none) h1) : ∀ (j i t : Nat) (bf : Int32) (h : mxH), j + i = n → mxG h → Ck h T n i t bf → mx_i h 101 3 = 0 → fr88 h0 h → H_88_10 (d + 6) h bf (nI i) Q := by
  intro j
  induction j with
  | zero =>
    intro i t bf h hj G K i3 F
    obtain rfl : i = n := by omega
    obtain ⟨n1, n2⟩ := Ck_nx K (fun _ c => by omega) (fun _ c => by omega)
    have en : sk T i i = i := rn_n (fun c => by omega)
    rw [en] at n1
    obtain ⟨k1, k2, k3, k4, k5, k6, -⟩ := K
    have hn := k4.1
    refine tr_88_10 G ⟨fun c => ?_, fun _ => ⟨⟨t, by omega, k3⟩, fun h4 u => ?_⟩⟩
    · rw [k2] at c
      exact absurd ((nI_ltI (by omega) (by omega)).mp c) (by omega)
    · obtain ⟨u1, u2, u3⟩ := u
      obtain ⟨a1, a2, a3, a4⟩ := u3 t (by omega) k3
      refine W88 (m := t) k (t + 1) 0 h4 rfl (mxU_G u1 G) ⟨k1, Tx_U u1 (by omega) k4, by rw [u2 1 (by decide)]; exact k2, a1, by rw [u2 3 (by decide)]; exact i3, fun s hs => ?_⟩ (fun r hr => by omega) (fr88_tr F (fr88_U u1 (fun j h2 _ => u2 j h2)))
      unfold Tk1
      rw [a2, a3, a4]
      by_cases z : s = t
      · subst z
        rw [if_pos rfl, if_pos rfl, if_pos rfl, n1, k2, if_neg (by omega)]
        refine ⟨rfl, ?_, ⟨fun c => by omega, fun c => by omega⟩, rfl⟩
        unfold kd; rw [if_neg (by omega)]
      · rw [if_neg z, if_neg z, if_neg z, if_pos (by omega)]
        have q := k5 s (by omega)
        refine ⟨q.1, q.2.1, ⟨fun _ => by omega, fun _ => q.2.2⟩, ?_⟩
        by_cases y : s + 1 < t
        · exact k6 s y
        · exact n2 s (by omega)
  | succ j ih =>
    intro i t bf h hj G K i3 F
    have hi : i < n := by omega
    have K0 := K
    obtain ⟨k1, k2, k3, k4, k5, k6, KL⟩ := K
    have hn := k4.1
    have v : V_89 h (mx_i h 102 (nI i).toNatClampNeg) = kq (T i) := by rw [nI_clamp (by omega), k4.2.2.2 i hi, V89_i (k4.2.2.1 i)]
    have q0 : kq (T i) = 0 ↔ isSp (T i) = true := by
      unfold kq
      by_cases a : isSp (T i) = true
      · rw [if_pos a]; exact ⟨fun _ => a, fun _ => rfl⟩
      · rw [if_neg a]
        refine ⟨fun c => ?_, fun c => absurd c a⟩
        split at c
        · exact absurd c (by decide)
        · split at c <;> exact absurd c (by decide)
    have q2 : isDg (T i) = true → kq (T i) = 2 := fun a => by
      unfold kq; rw [if_neg (fun c => (sp_nd c).1 a), if_pos a]
    have q3 : isLt (T i) = true → kq (T i) = 3 := fun a => by
      unfold kq; rw [if_neg (fun c => (sp_nd c).2 a), if_neg (lt_nd a), if_pos a]
    have add : (bf = 2 → ¬ (i < n ∧ isDg (T i) = true)) → (bf = 3 → ¬ (i < n ∧ isLt (T i) = true)) → ¬ kq (T i) = 0 → (cB (mx_i h 101 2) 400 ∧ (∀ (h31 : mxH), p90 (kq (T i)) (nI i) h h31 → H_88_10 (d + 6) h31 (kq (T i)) (nI i + 1) Q)) := by
      intro e2 e3 c
      refine ⟨⟨t, by omega, k3⟩, fun h31 u => ?_⟩
      rw [nI_1]
      exact ih (i + 1) (t + 1) _ h31 (by omega) (mxU_G u.1 G) (Ck_add hi K0 e2 e3 (fun y => c (q0.mpr y)) u) (by rw [u.2.1 3 (by decide)]; exact i3) (fr88_tr F (fr88_U u.1 (fun j h2 _ => u.2.1 j h2)))
    have blk : kq (T i) = 0 → H_88_10 (d + 6) h (kq (T i)) (nI i + 1) Q := by
      intro c
      rw [nI_1, c]
      exact ih (i + 1) t 0 h (by omega) G (Ck_sp hi K0 (q0.mp c)) i3 F
    have gr : kq (T i) = bf → (bf = 2 ∨ bf = 3) → 0 < t → (vp_in ((mx_i h 101 2) - 1) 401 ∧ (∀ h24, h24 = mx_wi h 105 ((mx_i h 101 2) - 1).toNatClampNeg ((mx_i h 105 ((mx_i h 101 2) - 1).toNatClampNeg) + 1) → H_88_10 (d + 6) h24 (kq (T i)) (nI i + 1) Q)) := by
      intro e e23 ht
      obtain ⟨u, rfl⟩ : ∃ u, t = u + 1 := ⟨t - 1, by omega⟩
      have eu : mx_i h 101 2 - 1 = nI u := by rw [k3, ← nI_1]; grind
      rw [eu, nI_clamp (by omega)]
      refine ⟨vp_in_nI (by omega) (by decide), fun h24 e24 => ?_⟩
      have hb : (bf = 2 ∧ isDg (T i) = true) ∨ (bf = 3 ∧ isLt (T i) = true) := by
        rcases e23 with rfl | rfl
        · left
          refine ⟨rfl, Decidable.byContradiction (fun y => ?_)⟩
          unfold kq at e
          split at e
          · exact absurd e (by decide)
          · split at e <;> exact absurd e (by decide)
        · right
          refine ⟨rfl, Decidable.byContradiction (fun y => ?_)⟩
          unfold kq at e
          split at e
          · exact absurd e (by decide)
          · split at e
            · exact absurd e (by decide)
            · exact absurd e (by decide)
      rw [nI_1, e24, e]
      exact ih (i + 1) (u + 1) bf _ (by omega) (mxG_wi G) (Ck_gr hi K0 hb) (by rw [wi_ne (by decide)]; exact i3) (fr88_tr F (fr88_U (mxU_wi (.inr (.inr (.inr rfl)))) (fun j _ _ => by rw [wi_ne (by decide)])))
    have ht : (0 < mx_i h 101 2) = (0 < t) := by rw [k3]; exact nI_lt_iff (a := 0) (by omega) (by omega)
    refine tr_88_10 G ⟨fun _ => ⟨vp_in_nI (by omega) (by decide), ?_⟩, fun c => absurd (by rw [k2]; exact nI_lt hi (by omega)) c⟩
    rw [v, ht]
    refine ⟨fun c0 => ⟨fun c1 => ⟨fun c2 => gr c1 (.inl (c1.symm.trans c2)) c0, fun c2 => ⟨fun c3 => gr c1 (.inr (c1.symm.trans c3)) c0, fun c3 => ⟨blk, add (fun e y => ?_) (fun e y => ?_)⟩⟩⟩, fun c1 => ⟨blk, add (fun e y => ?_) (fun e y => ?_)⟩⟩, fun c0 => ⟨blk, add (fun e y => ?_) (fun e y => ?_)⟩⟩
    · exact c2 (q2 y.2)
    · exact c3 (q3 y.2)
    · exact c1 ((q2 y.2).trans e.symm)
    · exact c1 ((q3 y.2).trans e.symm)
    · rcases KL with ⟨-, e0, -⟩ | ⟨u, eu, -⟩
      · rw [e] at e0; exact absurd e0 (by decide)
      · omega
    · rcases KL with ⟨-, e0, -⟩ | ⟨u, eu, -⟩
      · rw [e] at e0; exact absurd e0 (by decide)
      · omega
theorem sp_88 {d : Nat} {h : mxH} {Q : mxO → mxH → Prop} (G : mxG h) (ok : ∃ T n, Tx h T n ∧ mx_i h 101 1 = nI n) (k : ∀ h1, p88 h h1 → Q (.inl none) h1) : mx_wp (d + 6) 88 0 (mx_fr 88 [.ref 101]) [] h Q := by
  obtain ⟨T0, n0, X0⟩ := ok
  refine all_mv (α := (Nat → Int32) × Nat) (P := fun a => Tx h a.1 a.2 ∧ mx_i h 101 1 = nI a.2) (F := fr88 h) (R := fun a h1 => Cl h1 a.1 a.2 0) ⟨(T0, n0), X0⟩ (fun a pa => ?_) (fun h1 f r => k h1 ⟨f, fun T n X e => r (T, n) ⟨X, e⟩⟩)
  obtain ⟨T, n⟩ := a
  obtain ⟨X, e⟩ := pa
  have X : Tx h T n := X
  have e : mx_i h 101 1 = nI n := e
  refine tr_88_0 G (fun h1 e1 h4 e4 => ?_)
  have U4 : mxU (fun c => c = 101) h h4 := by rw [e4, e1]; exact mxU_tr (mxU_wi rfl) (mxU_wi rfl)
  have o4 : ∀ j, j ≠ 2 → j ≠ 3 → mx_i h4 101 j = mx_i h 101 j := fun j h2 h3 => by rw [e4, e1, wi_nj h3, wi_nj h2]
  refine K88 (T := T) (n := n) (fun h1 f C => ⟨rfl, f, C⟩) n 0 0 0 h4 rfl (mxU_G U4 G) ⟨Nat.le_refl _, by rw [o4 1 (by decide) (by decide)]; exact e, ?_, Tx_U U4 (by decide) X, fun s hs => by omega, fun s hs => by omega, .inl ⟨rfl, rfl, rfl⟩⟩ ?_ (fr88_U (mxU_mono (fun c hc => .inl hc) U4) o4)
  · rw [e4, e1, wi_nj (by decide), wi_at rfl rfl]; rfl
  · rw [e4, wi_at rfl rfl]
theorem mxS_agr {P : Nat → Prop} {h h1 : mxH} {vn vd vr vq : Nat} (u : agr P h h1) (S : mxS h vn vd vr vq) : mxS h1 vn vd vr vq := agr_S u S
/-! the reference's parts -/
/-- facts as they lie in the reference -/
def Fh (h : mxH) (k : Nat) : Int32 := if k < 7 then mx_i h 387 k else if k = 7 then mx_i h 381 15 else mx_i h 381 16
/-- what a code is worth -/
def cv (F : Nat → Int32) (c : Int32) : Int32 := if c < 1000 then c else F (c - 1000).toNatClampNeg
/-- the reference failed at e -/
def bad (h : mxH) (n e : Nat) (h1 : mxH) : Prop := ∃ q, q ≤ n ∧ h1 = mx_wi (mx_wi h 381 11 (nI q)) 381 12 (nI e)
def p228 (h : mxH) (x : Int32) (h1 : mxH) : Prop := mxK h h1 ∧ (¬ mx_i h 381 12 = -1 → x = 0 ∧ h1 = h) ∧ (mx_i h 381 12 = -1 → ∀ T n p, Rd h T n p → match pPt T n p with
  | .inl e => bad h n e h1
  | .inr (c, q) => h1 = mx_wi h 381 11 (nI q) ∧ x = cv (Fh h) c)
theorem cv_w {h : mxH} {k : Nat} (hk : k < 7) : cv (Fh h) (nI (1000 + k)) = mx_i h 387 k := by
  unfold cv
  rw [if_neg (show ¬ nI (1000 + k) < 1000 from fun c => absurd ((nI_ltI (b := 1000) (by omega) (by decide)).mp c) (by omega)), show (1000 : Int32) = nI 1000 from rfl, nI_sb (by omega), nI_clamp (by omega), show 1000 + k - 1000 = k by omega]
  unfold Fh
  rw [if_pos hk]
theorem W213f {h : mxH} {e : Int32} (hf : mx_i h 381 12 = -1) : W_213 h e = mx_wi h 381 12 e := by unfold W_213; rw [if_pos hf]
theorem sp_228 {d : Nat} {h : mxH} {Q : mxO → mxH → Prop} (G : mxG h) (ok : okT h) (k : ∀ x h1, p228 h x h1 → Q (.inl (some (.int x))) h1) : mx_wp (d + 5) 228 0 (mx_fr 228 [.ref 381]) [] h Q := by
  obtain ⟨T, n, p, R⟩ := ok
  refine tr_228_0 G ⟨fun hf => ⟨⟨T, n, p, R⟩, fun h4 u4 => ?_⟩, fun c => k 0 h ⟨mxK_rfl, fun _ => ⟨rfl, rfl⟩, fun e => absurd e c⟩⟩
  have e4 := u4.2 T n p R
  have R4 : Rd h4 T n (sk T n p) := by rw [e4]; exact Rd_at R (rn_le R.2.1)
  have G4 := mxK_G u4.1 G
  have hf4 : mx_i h4 381 12 = -1 := by rw [e4, wi_nj (by decide)]; exact hf
  have ii : sk T n (sk T n p) = sk T n p := rn_idem p
  have hn := R.1
  have skn : sk T n p ≤ n := rn_le R.2.1
  have fin : ∀ x h1, mxK h h1 → (match pPt T n p with
    | .inl e => bad h n e h1
    | .inr (c, q) => h1 = mx_wi h 381 11 (nI q) ∧ x = cv (Fh h) c) → Q (.inl (some (.int x))) h1 := by
    intro x h1 K r
    refine k x h1 ⟨K, fun c => absurd hf c, fun _ T' n' p' R' => ?_⟩
    obtain ⟨e1, e2, e3⟩ := Rd_uniq R R'
    rw [e1, e2, e3]
    exact r
  -- words
  have fact : ∀ j, mx_i h4 387 j = mx_i h 387 j := fun j => by rw [e4, wi_ne (by decide)]
  -- a word has been taken
  have got : ∀ (j : Nat) (h5 : mxH), j < 7 → ¬ sk T n p < rn isDg T n (sk T n p) → isW T n (19 + j) (sk T n p) = true → (∀ i, i < j → ¬ isW T n (19 + i) (sk T n p) = true) → h5 = mx_wi h4 381 11 (nI (sk T n p + wl (19 + j))) → Q (.inl (some (.int (mx_i h5 387 j)))) h5 := by
    intro j h5 hj nd w no e5
    refine fin _ _ (by rw [e5, e4]; exact mxK_tr mxK_wi mxK_wi) ?_
    have ep : pPt T n p = .inr (nI (1000 + j), sk T n p + wl (19 + j)) := by
      unfold pPt pW
      rw [if_neg nd]
      have : j = 0 ∨ j = 1 ∨ j = 2 ∨ j = 3 ∨ j = 4 ∨ j = 5 ∨ j = 6 := by omega
      rcases this with rfl | rfl | rfl | rfl | rfl | rfl | rfl
      · rw [if_pos w]; rfl
      · rw [if_neg (no 0 (by decide)), if_pos w]; rfl
      · rw [if_neg (no 0 (by decide)), if_neg (no 1 (by decide)), if_pos w]; rfl
      · rw [if_neg (no 0 (by decide)), if_neg (no 1 (by decide)), if_neg (no 2 (by decide)), if_pos w]; rfl
      · rw [if_neg (no 0 (by decide)), if_neg (no 1 (by decide)), if_neg (no 2 (by decide)), if_neg (no 3 (by decide)), if_pos w]; rfl
      · rw [if_neg (no 0 (by decide)), if_neg (no 1 (by decide)), if_neg (no 2 (by decide)), if_neg (no 3 (by decide)), if_neg (no 4 (by decide)), if_pos w]; rfl
      · rw [if_neg (no 0 (by decide)), if_neg (no 1 (by decide)), if_neg (no 2 (by decide)), if_neg (no 3 (by decide)), if_neg (no 4 (by decide)), if_neg (no 5 (by decide)), if_pos w]; rfl
    rw [ep]
    refine ⟨by rw [e5, e4, wi_wi], ?_⟩
    rw [cv_w hj, e5, wi_ne (by decide), fact]
  -- one word after the other
  have one : ∀ (j : Nat) (x : Int32) (h5 : mxH), j < 7 → p212 (68 + 2 * j) h4 x h5 → (isW T n (19 + j) (sk T n p) = true ∧ ¬ x = 0 ∧ h5 = mx_wi h4 381 11 (nI (sk T n p + wl (19 + j)))) ∨ (¬ isW T n (19 + j) (sk T n p) = true ∧ x = 0 ∧ h5 = h4) := by
    intro j x h5 hj u
    rcases u.2 T n _ (19 + j) R4 (by omega) (by omega) with ⟨w1, w2, w3⟩ | ⟨w1, w2, w3⟩
    · rw [ii] at w1 w3
      exact .inl ⟨w1, by rw [w2]; decide, w3⟩
    · rw [ii] at w1 w3
      refine .inr ⟨w1, w2, ?_⟩
      rw [w3, wi_id R4.2.2.2.1]
  have last : ¬ sk T n p < rn isDg T n (sk T n p) → (∀ i, i < 7 → ¬ isW T n (19 + i) (sk T n p) = true) → ∀ h147, h147 = W_213 h4 (mx_i h4 381 11) → Q (.inl (some (.int 0))) h147 := by
    intro nd no h147 e147
    refine fin _ _ ?_ ?_
    · rw [e147, W213f hf4, e4]; exact mxK_tr mxK_wi mxK_wi
    · have ep : pPt T n p = .inl (sk T n p) := by
        unfold pPt pW
        rw [if_neg nd, if_neg (no 0 (by decide)), if_neg (no 1 (by decide)), if_neg (no 2 (by decide)), if_neg (no 3 (by decide)), if_neg (no 4 (by decide)), if_neg (no 5 (by decide)), if_neg (no 6 (by decide))]
      rw [ep]
      exact ⟨sk T n p, skn, by rw [e147, W213f hf4, R4.2.2.2.1, e4]⟩
  refine ⟨fun c => ?_, fun c => ?_⟩
  · rw [Rd_lt R4] at c
    refine ⟨by rw [R4.2.2.2.1]; exact Rd_ix R4 c, fun c2 => ?_, fun c2 => ?_⟩
    · rw [R4.2.2.2.1, v191D, Rd_209 R4 c] at c2
      have nd : ¬ sk T n p < rn isDg T n (sk T n p) := by
        intro y
        have := (rn_in (c := isDg) (T := T) (n := n) (sk T n p) _ (Nat.le_refl _) y).2
        rw [if_pos this] at c2
        exact absurd c2 (by decide)
      refine ⟨⟨T, n, _, R4⟩, by omega, fun x0 g0 u0 => ?_⟩
      rcases one 0 x0 g0 (by decide) u0 with ⟨w1, w2, w3⟩ | ⟨n0, w2, w3⟩
      · exact ⟨fun c => absurd c w2, fun _ => ⟨fun c => absurd c (by decide), fun _ => got 0 g0 (by decide) nd w1 (fun i hi => by
            have : False := by omega
            exact this.elim) w3⟩⟩
      · subst w3
        refine ⟨fun _ => ?_, fun c => absurd w2 c⟩
        refine ⟨⟨T, n, _, R4⟩, by omega, fun x1 g1 u1 => ?_⟩
        rcases one 1 x1 g1 (by decide) u1 with ⟨w1, w2, w3⟩ | ⟨n1, w2, w3⟩
        · exact ⟨fun c => absurd c w2, fun _ => ⟨fun c => absurd c (by decide), fun _ => got 1 g1 (by decide) nd w1 (fun i hi => by
              have : i = 0 := by omega
              subst this
              exact n0) w3⟩⟩
        · subst w3
          refine ⟨fun _ => ?_, fun c => absurd w2 c⟩
          refine ⟨⟨T, n, _, R4⟩, by omega, fun x2 g2 u2 => ?_⟩
          rcases one 2 x2 g2 (by decide) u2 with ⟨w1, w2, w3⟩ | ⟨n2, w2, w3⟩
          · exact ⟨fun c => absurd c w2, fun _ => ⟨fun c => absurd c (by decide), fun _ => got 2 g2 (by decide) nd w1 (fun i hi => by
                have : i = 0 ∨ i = 1 := by omega
                rcases this with rfl | rfl
                · exact n0
                · exact n1) w3⟩⟩
          · subst w3
            refine ⟨fun _ => ?_, fun c => absurd w2 c⟩
            refine ⟨⟨T, n, _, R4⟩, by omega, fun x3 g3 u3 => ?_⟩
            rcases one 3 x3 g3 (by decide) u3 with ⟨w1, w2, w3⟩ | ⟨n3, w2, w3⟩
            · exact ⟨fun c => absurd c w2, fun _ => ⟨fun c => absurd c (by decide), fun _ => got 3 g3 (by decide) nd w1 (fun i hi => by
                  have : i = 0 ∨ i = 1 ∨ i = 2 := by omega
                  rcases this with rfl | rfl | rfl
                  · exact n0
                  · exact n1
                  · exact n2) w3⟩⟩
            · subst w3
              refine ⟨fun _ => ?_, fun c => absurd w2 c⟩
              refine ⟨⟨T, n, _, R4⟩, by omega, fun x4 g4 u4 => ?_⟩
              rcases one 4 x4 g4 (by decide) u4 with ⟨w1, w2, w3⟩ | ⟨n4, w2, w3⟩
              · exact ⟨fun c => absurd c w2, fun _ => ⟨fun c => absurd c (by decide), fun _ => got 4 g4 (by decide) nd w1 (fun i hi => by
                    have : i = 0 ∨ i = 1 ∨ i = 2 ∨ i = 3 := by omega
                    rcases this with rfl | rfl | rfl | rfl
                    · exact n0
                    · exact n1
                    · exact n2
                    · exact n3) w3⟩⟩
              · subst w3
                refine ⟨fun _ => ?_, fun c => absurd w2 c⟩
                refine ⟨⟨T, n, _, R4⟩, by omega, fun x5 g5 u5 => ?_⟩
                rcases one 5 x5 g5 (by decide) u5 with ⟨w1, w2, w3⟩ | ⟨n5, w2, w3⟩
                · exact ⟨fun c => absurd c w2, fun _ => ⟨fun c => absurd c (by decide), fun _ => got 5 g5 (by decide) nd w1 (fun i hi => by
                      have : i = 0 ∨ i = 1 ∨ i = 2 ∨ i = 3 ∨ i = 4 := by omega
                      rcases this with rfl | rfl | rfl | rfl | rfl
                      · exact n0
                      · exact n1
                      · exact n2
                      · exact n3
                      · exact n4) w3⟩⟩
                · subst w3
                  refine ⟨fun _ => ?_, fun c => absurd w2 c⟩
                  refine ⟨⟨T, n, _, R4⟩, by omega, fun x6 g6 u6 => ?_⟩
                  rcases one 6 x6 g6 (by decide) u6 with ⟨w1, w2, w3⟩ | ⟨n6, w2, w3⟩
                  · intro v144 ev
                    rw [if_neg w2] at ev
                    subst ev
                    exact ⟨fun c => absurd c (by decide), fun _ => ⟨vpl (by decide), got 6 g6 (by decide) nd w1 (fun i hi => by
                        have : i = 0 ∨ i = 1 ∨ i = 2 ∨ i = 3 ∨ i = 4 ∨ i = 5 := by omega
                        rcases this with rfl | rfl | rfl | rfl | rfl | rfl
                        · exact n0
                        · exact n1
                        · exact n2
                        · exact n3
                        · exact n4
                        · exact n5) w3⟩⟩
                  · intro v144 ev
                    rw [if_pos w2] at ev
                    subst ev w3
                    exact ⟨fun _ => last nd (fun i hi => by
                        have : i = 0 ∨ i = 1 ∨ i = 2 ∨ i = 3 ∨ i = 4 ∨ i = 5 ∨ i = 6 := by omega
                        rcases this with rfl | rfl | rfl | rfl | rfl | rfl | rfl
                        · exact n0
                        · exact n1
                        · exact n2
                        · exact n3
                        · exact n4
                        · exact n5
                        · exact n6), fun c => absurd rfl c⟩
    · rw [R4.2.2.2.1, v191D, Rd_209 R4 c] at c2
      have dg : isDg (T (sk T n p)) = true := Decidable.byContradiction (fun y => c2 (by rw [if_neg y]))
      have lt : sk T n p < rn isDg T n (sk T n p) := by rw [rn_y c dg]; exact Nat.lt_of_succ_le (rn_ge _)
      refine ⟨⟨T, n, _, R4⟩, fun x h5 u5 => ?_⟩
      have K5 := mxK_tr u4.1 u5.1
      rcases u5.2.2 hf4 T n _ R4 with ⟨a1, a2, a3⟩ | ⟨a1, q, a2, a3, a4⟩
      · unfold goodN at a1
        rw [ii] at a1
        unfold numN at a2
        unfold endN at a3
        rw [ii] at a2 a3
        refine fin _ _ K5 ?_
        have ep : pPt T n p = .inr (dgs T (sk T n p) (rn isDg T n (sk T n p)), rn isDg T n (sk T n p)) := by
          unfold pPt; rw [if_pos lt, if_pos a1.2.1]
        rw [ep]
        refine ⟨by rw [a3, e4, wi_wi], ?_⟩
        have g : ∀ i, i < rn isDg T n (sk T n p) - sk T n p → isDg (T (sk T n p + i)) = true := fun i hi => (rn_in (c := isDg) (T := T) (n := n) (sk T n p) (sk T n p + i) (by omega) (by omega)).2
        obtain ⟨v, hv, e⟩ := dgs_nI _ (by omega) g
        rw [Nat.add_sub_cancel' (by omega)] at e
        have : 10 ^ (rn isDg T n (sk T n p) - sk T n p) ≤ 10 ^ 3 := Nat.pow_le_pow_right (by decide) (by omega)
        rw [a2]
        unfold cv
        rw [e, if_pos (show nI v < 1000 from nI_lt (b := 1000) (by omega) (by decide))]
      · have a1 : ¬ rn isDg T n (sk T n p) ≤ sk T n p + 3 := by
          intro y
          apply a1
          unfold goodN
          rw [ii]
          have g : ∀ i, i < rn isDg T n (sk T n p) - sk T n p → isDg (T (sk T n p + i)) = true := fun i hi => (rn_in (c := isDg) (T := T) (n := n) (sk T n p) (sk T n p + i) (by omega) (by omega)).2
          obtain ⟨v, hv, e⟩ := dgs_nI _ (by omega) g
          rw [Nat.add_sub_cancel' (by omega)] at e
          have : 10 ^ (rn isDg T n (sk T n p) - sk T n p) ≤ 10 ^ 3 := Nat.pow_le_pow_right (by decide) (by omega)
          refine ⟨lt, y, ?_, ?_⟩
          · rw [e]; exact nI_pos (by omega)
          · rw [e]; exact fun y => absurd ((nI_ltI (a := 999) (by decide) (by omega)).mp y) (by omega)
        refine fin _ _ K5 ?_
        have ep : pPt T n p = .inl (sk T n p) := by
          unfold pPt; rw [if_pos lt, if_neg a1]
        rw [ep]
        rw [ii] at a4
        exact ⟨q, a3, by rw [a4, e4, wi_wi]⟩
  · rw [Rd_lt R4] at c
    have nd : ¬ sk T n p < rn isDg T n (sk T n p) := by
      intro y
      exact c (rn_in (c := isDg) (T := T) (n := n) (sk T n p) _ (Nat.le_refl _) y).1
    refine ⟨⟨T, n, _, R4⟩, by omega, fun x0 g0 u0 => ?_⟩
    rcases one 0 x0 g0 (by decide) u0 with ⟨w1, w2, w3⟩ | ⟨n0, w2, w3⟩
    · exact ⟨fun c => absurd c w2, fun _ => ⟨fun c => absurd c (by decide), fun _ => got 0 g0 (by decide) nd w1 (fun i hi => by
          have : False := by omega
          exact this.elim) w3⟩⟩
    · subst w3
      refine ⟨fun _ => ?_, fun c => absurd w2 c⟩
      refine ⟨⟨T, n, _, R4⟩, by omega, fun x1 g1 u1 => ?_⟩
      rcases one 1 x1 g1 (by decide) u1 with ⟨w1, w2, w3⟩ | ⟨n1, w2, w3⟩
      · exact ⟨fun c => absurd c w2, fun _ => ⟨fun c => absurd c (by decide), fun _ => got 1 g1 (by decide) nd w1 (fun i hi => by
            have : i = 0 := by omega
            subst this
            exact n0) w3⟩⟩
      · subst w3
        refine ⟨fun _ => ?_, fun c => absurd w2 c⟩
        refine ⟨⟨T, n, _, R4⟩, by omega, fun x2 g2 u2 => ?_⟩
        rcases one 2 x2 g2 (by decide) u2 with ⟨w1, w2, w3⟩ | ⟨n2, w2, w3⟩
        · exact ⟨fun c => absurd c w2, fun _ => ⟨fun c => absurd c (by decide), fun _ => got 2 g2 (by decide) nd w1 (fun i hi => by
              have : i = 0 ∨ i = 1 := by omega
              rcases this with rfl | rfl
              · exact n0
              · exact n1) w3⟩⟩
        · subst w3
          refine ⟨fun _ => ?_, fun c => absurd w2 c⟩
          refine ⟨⟨T, n, _, R4⟩, by omega, fun x3 g3 u3 => ?_⟩
          rcases one 3 x3 g3 (by decide) u3 with ⟨w1, w2, w3⟩ | ⟨n3, w2, w3⟩
          · exact ⟨fun c => absurd c w2, fun _ => ⟨fun c => absurd c (by decide), fun _ => got 3 g3 (by decide) nd w1 (fun i hi => by
                have : i = 0 ∨ i = 1 ∨ i = 2 := by omega
                rcases this with rfl | rfl | rfl
                · exact n0
                · exact n1
                · exact n2) w3⟩⟩
          · subst w3
            refine ⟨fun _ => ?_, fun c => absurd w2 c⟩
            refine ⟨⟨T, n, _, R4⟩, by omega, fun x4 g4 u4 => ?_⟩
            rcases one 4 x4 g4 (by decide) u4 with ⟨w1, w2, w3⟩ | ⟨n4, w2, w3⟩
            · exact ⟨fun c => absurd c w2, fun _ => ⟨fun c => absurd c (by decide), fun _ => got 4 g4 (by decide) nd w1 (fun i hi => by
                  have : i = 0 ∨ i = 1 ∨ i = 2 ∨ i = 3 := by omega
                  rcases this with rfl | rfl | rfl | rfl
                  · exact n0
                  · exact n1
                  · exact n2
                  · exact n3) w3⟩⟩
            · subst w3
              refine ⟨fun _ => ?_, fun c => absurd w2 c⟩
              refine ⟨⟨T, n, _, R4⟩, by omega, fun x5 g5 u5 => ?_⟩
              rcases one 5 x5 g5 (by decide) u5 with ⟨w1, w2, w3⟩ | ⟨n5, w2, w3⟩
              · exact ⟨fun c => absurd c w2, fun _ => ⟨fun c => absurd c (by decide), fun _ => got 5 g5 (by decide) nd w1 (fun i hi => by
                    have : i = 0 ∨ i = 1 ∨ i = 2 ∨ i = 3 ∨ i = 4 := by omega
                    rcases this with rfl | rfl | rfl | rfl | rfl
                    · exact n0
                    · exact n1
                    · exact n2
                    · exact n3
                    · exact n4) w3⟩⟩
              · subst w3
                refine ⟨fun _ => ?_, fun c => absurd w2 c⟩
                refine ⟨⟨T, n, _, R4⟩, by omega, fun x6 g6 u6 => ?_⟩
                rcases one 6 x6 g6 (by decide) u6 with ⟨w1, w2, w3⟩ | ⟨n6, w2, w3⟩
                · intro v144 ev
                  rw [if_neg w2] at ev
                  subst ev
                  exact ⟨fun c => absurd c (by decide), fun _ => ⟨vpl (by decide), got 6 g6 (by decide) nd w1 (fun i hi => by
                      have : i = 0 ∨ i = 1 ∨ i = 2 ∨ i = 3 ∨ i = 4 ∨ i = 5 := by omega
                      rcases this with rfl | rfl | rfl | rfl | rfl | rfl
                      · exact n0
                      · exact n1
                      · exact n2
                      · exact n3
                      · exact n4
                      · exact n5) w3⟩⟩
                · intro v144 ev
                  rw [if_pos w2] at ev
                  subst ev w3
                  exact ⟨fun _ => last nd (fun i hi => by
                      have : i = 0 ∨ i = 1 ∨ i = 2 ∨ i = 3 ∨ i = 4 ∨ i = 5 ∨ i = 6 := by omega
                      rcases this with rfl | rfl | rfl | rfl | rfl | rfl | rfl
                      · exact n0
                      · exact n1
                      · exact n2
                      · exact n3
                      · exact n4
                      · exact n5
                      · exact n6), fun c => absurd rfl c⟩
