/-! SPECS by hand, 13: the class's lines of the law -/
def cdL : List LL → List Int32
  | [] => []
  | L :: Ls => L.2.2 ++ cdL Ls
theorem cdL_app : ∀ (A B : List LL), cdL (A ++ B) = cdL A ++ cdL B := by
  intro A
  induction A with
  | nil => intro B; rfl
  | cons L A ih => intro B; show L.2.2 ++ cdL (A ++ B) = _; rw [ih]; show _ = (L.2.2 ++ cdL A) ++ cdL B; rw [List.append_assoc]
def offL (Ls : List LL) (i : Nat) : Nat := (cdL (Ls.take i)).length
theorem offL_app {Ls M : List LL} {i : Nat} (h : i ≤ Ls.length) : offL (Ls ++ M) i = offL Ls i := by
  unfold offL
  rw [List.take_append_of_le_length h]
theorem offL_len {Ls M : List LL} : offL (Ls ++ M) Ls.length = (cdL Ls).length := by
  rw [offL_app (Nat.le_refl _)]
  unfold offL
  rw [List.take_length]
def Li (h : mxH) (b : Nat) (Ls : List LL) : Prop := mx_i h b 1 = nI Ls.length ∧ (∀ i, i < Ls.length → mx_i h (b + 1) i = (Ls.getD i (0, 0, [])).1 ∧ mx_i h (b + 2) i = (Ls.getD i (0, 0, [])).2.1 ∧ mx_i h (b + 3) i = nI (offL Ls i)) ∧ Co h b (cdL Ls)
theorem getD_l {Ls : List LL} {L : LL} {i : Nat} (h : i < Ls.length) : (Ls ++ [L]).getD i (0, 0, []) = Ls.getD i (0, 0, []) := by
  rw [List.getD_eq_getElem?_getD, List.getD_eq_getElem?_getD, List.getElem?_append_left h]
theorem getD_e {Ls : List LL} {L : LL} : (Ls ++ [L]).getD Ls.length (0, 0, []) = L := by
  rw [List.getD_eq_getElem?_getD, List.getElem?_append_right (Nat.le_refl _), Nat.sub_self]; rfl
theorem Li_open {h h1 : mxH} {b : Nat} {Ls : List LL} {v w : Int32} (S : Li h b Ls) (hl : Ls.length < 12) (u : p22 b v w h h1) : Li h1 b (Ls ++ [(v, w, [])]) := by
  obtain ⟨s1, s2, s3⟩ := S
  obtain ⟨u1, u2, u3⟩ := u
  obtain ⟨a1, a2, a3, a4⟩ := u3 Ls.length hl s1
  have ll : (Ls ++ [((v, w, []) : LL)]).length = Ls.length + 1 := by simp
  have ec : cdL (Ls ++ [((v, w, []) : LL)]) = cdL Ls := by rw [cdL_app]; show cdL Ls ++ ([] ++ []) = _; simp
  refine ⟨by rw [a1, ll], fun i hi => ?_, ?_⟩
  · rw [ll] at hi
    rw [a2, a3, a4]
    by_cases z : i = Ls.length
    · subst z
      rw [if_pos rfl, if_pos rfl, if_pos rfl, getD_e, offL_len]
      exact ⟨rfl, rfl, s3.1⟩
    · rw [if_neg z, if_neg z, if_neg z, getD_l (by omega), offL_app (by omega)]
      exact s2 i (by omega)
  · rw [ec]
    unfold Co
    rw [u2 2 (by decide), mxU_i u1 (by omega)]
    exact s3
theorem Li_cond {h h1 : mxH} {b : Nat} {Ls : List LL} {v w : Int32} {s : List Int32} (hb : 150 < b) (S : Li h b (Ls ++ [(v, w, [])])) (f : frL b h h1) (O : Co h1 b (cdL Ls ++ s)) : Li h1 b (Ls ++ [(v, w, s)]) := by
  obtain ⟨s1, s2, s3⟩ := S
  have ll : ∀ t : List Int32, (Ls ++ [((v, w, t) : LL)]).length = Ls.length + 1 := fun t => by simp
  have ec : cdL (Ls ++ [((v, w, s) : LL)]) = cdL Ls ++ s := by rw [cdL_app]; show cdL Ls ++ (s ++ []) = _; simp
  refine ⟨by rw [f.2.2 1 (by decide), s1, ll, ll], fun i hi => ?_, by rw [ec]; exact O⟩
  rw [ll] at hi
  have z := s2 i (by rw [ll]; exact hi)
  rw [mxU_i f.1 (by omega), mxU_i f.1 (by omega), mxU_i f.1 (by omega)]
  rw [offL_app (by omega)] at z ⊢
  by_cases y : i = Ls.length
  · subst y
    rw [getD_e] at z ⊢
    exact z
  · rw [getD_l (by omega)] at z ⊢
    exact z
theorem Li_mv {h h1 : mxH} {b : Nat} {Ls : List LL} (hb : 150 < b) (u : mvC h h1) (S : Li h b Ls) : Li h1 b Ls := by
  obtain ⟨v, rfl⟩ := u
  unfold Li Co
  rw [wi_ne (by omega), wi_ne (by omega), wi_ne (by omega), wi_ne (by omega), wi_ne (by omega)]
  exact S
/-- what reading lines leaves as it was -/
def frD (b : Nat) (h h1 : mxH) : Prop := mxU (fun c => c = 101 ∨ c = 107 ∨ c = 108 ∨ (b ≤ c ∧ c ≤ b + 4)) h h1 ∧ (∀ j, j ≠ 3 → mx_i h1 101 j = mx_i h 101 j) ∧ mx_i h1 b 0 = mx_i h b 0
theorem frD_rfl {b : Nat} {h : mxH} : frD b h h := ⟨mxU_rfl, fun _ _ => rfl, rfl⟩
theorem frD_tr {b : Nat} {h h1 h2 : mxH} (u : frD b h h1) (w : frD b h1 h2) : frD b h h2 := ⟨mxU_tr u.1 w.1, fun j hj => (w.2.1 j hj).trans (u.2.1 j hj), w.2.2.trans u.2.2⟩
theorem frD_L {b : Nat} {h h1 : mxH} (u : frL b h h1) : frD b h h1 := ⟨mxU_mono (fun c hc => by omega) u.1, u.2.1, u.2.2 0 (by decide)⟩
theorem frD_mv {b : Nat} {h h1 : mxH} (hb : 150 < b) (u : mvC h h1) : frD b h h1 := frD_L (frL_mv hb u)
theorem frD_22 {b : Nat} {h h1 : mxH} {v w : Int32} (hb : 150 < b) (u : p22 b v w h h1) : frD b h h1 := ⟨mxU_mono (fun c hc => by omega) u.1, fun j _ => by rw [mxU_i u.1 (by omega)], u.2.1 0 (by decide)⟩
def outL (b : Nat) (T : Nat → Int32) (n : Nat) (Ls : List LL) (r : Sum Nat (LL × Nat)) (x : Int32) (h1 : mxH) : Prop := match r with
  | .inl e => x = 0 ∧ ∃ p, Cl h1 T n p ∧ sk T n p = e
  | .inr (L, q) => x = 1 ∧ Cl h1 T n q ∧ Li h1 b (Ls ++ [L])
abbrev vwL : Type := (Nat → Int32) × Nat × Nat × List LL
def atL (h : mxH) (b : Nat) (a : vwL) : Prop := Cl h a.1 a.2.1 a.2.2.1 ∧ a.2.2.1 ≤ a.2.1 ∧ Li h b a.2.2.2 ∧ (cdL a.2.2.2).length ≤ a.2.2.1 ∧ a.2.2.2.length < 12
def p31 (b : Nat) (h : mxH) (x : Int32) (h1 : mxH) : Prop := frD b h h1 ∧ ∀ T n p Ls, Cl h T n p → p ≤ n → Li h b Ls → (cdL Ls).length ≤ p → Ls.length < 12 → outL b T n Ls (pLine T n p) x h1
theorem pKd_pr {T : Nat → Int32} {n p q : Nat} {v : Int32} (h : pKd T n p = .inr (v, q)) : p < q ∧ q ≤ n := by
  have g := sk_ge (T := T) (n := n) p
  have key : ∀ k, k < 26 → wrd T n k p = true → p < sk T n p + wl k ∧ sk T n p + wl k ≤ n := fun k hk w => by
    have := wrd_in hk w
    have := wl_pos hk
    omega
  unfold pKd at h
  repeat' split at h
  all_goals first | (cases h; rename_i w; exact key _ (by decide) w) | cases h
theorem endN_le {T : Nat → Int32} {n p : Nat} (hp : p ≤ n) : endN T n p ≤ n := rn_le (rn_le hp)
theorem pLine_pr {T : Nat → Int32} {n p q : Nat} {L : LL} (hn : n ≤ 400) (hp : p ≤ n) (h : pLine T n p = .inr (L, q)) : L.2.2.length + p ≤ q ∧ p < q ∧ q ≤ n := by
  unfold pLine at h
  split at h
  · cases h
  · rename_i v q1 e
    have a := pKd_pr e
    have g1 := sk_ge (T := T) (n := n) q1
    have le := endN_le (T := T) a.2
    split at h
    · rename_i z
      have g2 := sk_ge (T := T) (n := n) (endN T n q1)
      split at h
      · rename_i w
        have wi := wrd_in (by decide) w
        have w2 := wl_pos (k := 13) (by decide)
        split at h
        · cases h
        · rename_i s q2 ec
          have := cnd_pr hn (by omega) ec
          cases h
          show s.length + p ≤ q ∧ _
          omega
      · cases h
        show 0 + p ≤ _ ∧ _
        omega
    · cases h
theorem S31 {d b n p : Nat} {T : Nat → Int32} {Ls : List LL} {h : mxH} {Q : mxO → mxH → Prop} (G : mxG h) (hVb : (mxT b).1 = 3) (C : Cl h T n p) (hpn : p ≤ n) (S : Li h b Ls) (hol : (cdL Ls).length ≤ p) (hl : Ls.length < 12) (fin : ∀ x h1, frD b h h1 → outL b T n Ls (pLine T n p) x h1 → Q (.inl (some (.int x))) h1) : mx_wp (d + 5) 31 0 (mx_fr 31 [.ref 107, .ref 101, .ref b]) [] h Q := by
  have hb := mxT3 hVb
  have hn := Cl_n C
  have ep : pLine T n p = match pKd T n p with
    | .inl e => .inl e
    | .inr (v, q) => if sk T n q < endN T n q ∧ endN T n q ≤ sk T n q + 3 ∧ ¬ numN T n q < 0 ∧ ¬ 99 < numN T n q then (if wrd T n 13 (endN T n q) = true then (match cnd T n (sk T n (endN T n q) + wl 13) with
        | .inl e => .inl e
        | .inr (s, q2) => .inr ((v, numN T n q, s), q2)) else .inr ((v, numN T n q, []), endN T n q)) else .inl (sk T n q) := rfl
  refine tr_31_0 G hVb ⟨⟨T, n, p, C⟩, fun x2 h3 u3 => ?_⟩
  have z := u3.2 T n p C
  have F3 := frD_mv (b := b) hb u3.1
  have S3 := Li_mv hb u3.1 S
  have G3 := mxK_G (mvC_K u3.1) G
  match hk : pKd T n p with
  | .inl e =>
    rw [hk] at z ep
    refine ⟨fun _ => fin _ _ F3 ?_, fun c => absurd z.1 c⟩
    have he : e = sk T n p := by
      unfold pKd at hk
      repeat' split at hk
      all_goals first | cases hk; rfl | cases hk
    rw [ep, z.2]
    exact ⟨rfl, p, C, he.symm⟩
  | .inr (v, q) =>
    rw [hk] at z ep
    obtain ⟨z1, z2, z3⟩ := z
    have pq := pKd_pr hk
    have gq := sk_ge (T := T) (n := n) q
    have le := endN_le (T := T) pq.2
    subst z1
    have ep : pLine T n p = if sk T n q < endN T n q ∧ endN T n q ≤ sk T n q + 3 ∧ ¬ numN T n q < 0 ∧ ¬ 99 < numN T n q then (if wrd T n 13 (endN T n q) = true then (match cnd T n (sk T n (endN T n q) + wl 13) with
        | .inl e => .inl e
        | .inr (s, q2) => .inr ((x2, numN T n q, s), q2)) else .inr ((x2, numN T n q, []), endN T n q)) else .inl (sk T n q) := ep
    refine ⟨fun c => absurd c z2, fun _ => ⟨⟨T, n, q, z3⟩, fun x8 h9 u9 => ?_⟩⟩
    have F9 := frD_tr F3 (frD_mv hb u9.1)
    have S9 := Li_mv hb u9.1 S3
    have G9 := mxK_G (mvC_K u9.1) G3
    rcases u9.2 T n q z3 with ⟨a1, a2, a3, a4, a5, a6, a7⟩ | ⟨a1, a2, a3⟩
    · rw [if_pos ⟨a1, a2, a3, a4⟩] at ep
      have a5 : x8 = numN T n q := a5
      have a7 : Cl h9 T n (endN T n q) := a7
      have a1 : sk T n q < endN T n q := a1
      rw [← a5] at ep
      refine ⟨fun c => absurd c a6, fun _ => ⟨⟨_, by omega, S9.1⟩, fun h15 u15 => ?_⟩⟩
      have S15 := Li_open S9 hl u15
      have C15 : Cl h15 T n (endN T n q) := Cl_U u15.1 (fun c h1 h2 => by omega) a7
      have F15 := frD_tr F9 (frD_22 hb u15)
      have G15 := mxU_G u15.1 G9
      refine ⟨⟨T, n, _, C15⟩, by omega, fun x20 h21 u21 => ?_⟩
      have S21 := Li_mv hb u21.1 S15
      have F21 := frD_tr F15 (frD_mv hb u21.1)
      have G21 := mxK_G (mvC_K u21.1) G15
      have g2 := sk_ge (T := T) (n := n) (endN T n q)
      have ec : cdL (Ls ++ [((x2, x8, []) : LL)]) = cdL Ls := by rw [cdL_app]; show cdL Ls ++ ([] ++ []) = _; simp
      rcases u21.2 T n _ 13 C15 (by decide) rfl with ⟨w1, w2, w3⟩ | ⟨w1, w2, w3⟩
      · have w1 : wrd T n 13 (endN T n q) = true := w1
        have w3 : Cl h21 T n (sk T n (endN T n q) + wl 13) := w3
        have wi := wrd_in (by decide) w1
        have wp := wl_pos (k := 13) (by decide)
        rw [if_pos w1] at ep
        have O21 : Co h21 b (cdL Ls) := by rw [← ec]; exact S21.2.2
        refine ⟨fun c => absurd (w2.symm.trans c) (by decide), fun _ => ⟨⟨(T, n, _, cdL Ls), ⟨w3, by show sk T n (endN T n q) + wl 13 ≤ n; omega, O21, by show (cdL Ls).length ≤ sk T n (endN T n q) + wl 13; omega⟩, by show 1 ≤ sk T n (endN T n q) + wl 13; omega⟩, fun x26 h27 u27 v30 e30 => ?_⟩⟩
        have y := u27.2 T n _ (cdL Ls) w3 (by omega) (by omega) O21 (by omega)
        have F27 := frD_tr F21 (frD_L u27.1)
        match hc : cnd T n (sk T n (endN T n q) + wl 13) with
        | .inl e =>
          rw [hc] at y ep
          rw [y.1, if_pos rfl] at e30
          subst e30
          refine fin _ _ F27 ?_
          rw [ep]
          exact ⟨rfl, y.2⟩
        | .inr (s, q2) =>
          rw [hc] at y ep
          obtain ⟨y1, y2, y3⟩ := y
          rw [y1, if_neg (by decide)] at e30
          subst e30
          refine fin _ _ F27 ?_
          rw [ep]
          exact ⟨rfl, y2, Li_cond hb S21 u27.1 y3⟩
      · have w1 : ¬ wrd T n 13 (endN T n q) = true := w1
        rw [if_neg w1] at ep
        refine ⟨fun _ => fin _ _ F21 ?_, fun c => absurd w2 c⟩
        rw [ep]
        refine ⟨rfl, ?_, S21⟩
        rw [w3]; exact C15
    · have a1 : ¬ (sk T n q < endN T n q ∧ endN T n q ≤ sk T n q + 3 ∧ ¬ numN T n q < 0 ∧ ¬ 99 < numN T n q) := a1
      rw [if_neg a1] at ep
      refine ⟨fun _ => fin _ _ F9 ?_, fun c => absurd a2 c⟩
      rw [ep, a3]
      exact ⟨rfl, q, z3, rfl⟩
theorem sp_31 {d b : Nat} {h : mxH} {Q : mxO → mxH → Prop} (G : mxG h) (hVb : (mxT b).1 = 3) (ok : ∃ a, atL h b a) (k : ∀ x h1, p31 b h x h1 → Q (.inl (some (.int x))) h1) : mx_wp (d + 5) 31 0 (mx_fr 31 [.ref 107, .ref 101, .ref b]) [] h Q := by
  refine all_mut (F := frD b h) (R := fun a x h1 => outL b a.1 a.2.1 a.2.2.2 (pLine a.1 a.2.1 a.2.2.1) x h1) ok (fun a pa => ?_) (fun x h1 f r => k x h1 ⟨f, fun T n p o C hp O hl h12 => r (T, n, p, o) ⟨C, hp, O, hl, h12⟩⟩)
  exact S31 G hVb pa.1 pa.2.1 pa.2.2.1 pa.2.2.2.1 pa.2.2.2.2 (fun x h1 f r => ⟨x, rfl, f, r⟩)
