/-! SPECS by hand, 16: the reference's plain atoms -/
section
variable {T : Nat → Int32} {n : Nat}
theorem pPt_sk (p : Nat) : pPt T n (sk T n p) = pPt T n p := by unfold pPt; rw [skk]
theorem pSm_sk (p : Nat) : pSm T n (sk T n p) = pSm T n p := by unfold pSm; rw [pPt_sk]
theorem pSl_e : ∀ (f : Nat) {s : List Int32} {q e : Nat}, q ≤ n → pSl T n f s q = some (.inl e) → e ≤ n := by
  intro f
  induction f with
  | zero => intro s q e _ h; cases h
  | succ f ih =>
    intro s q e hq h
    rw [pSl_s] at h
    split at h
    · rename_i w
      have w := sgn_in w
      split at h
      · rename_i e' he
        cases h
        exact pPt_e (by omega) he
      · rename_i c q3 he
        exact ih (pPt_pr (by omega) he).2 h
    · cases h
theorem pSm_e {p e : Nat} (hn : n ≤ 400) (hp : p ≤ n) (h : pSm T n p = .inl e) : e ≤ n := by
  unfold pSm at h
  split at h
  · rename_i e' he
    cases h
    exact pPt_e hp he
  · rename_i c q1 he
    have a := pPt_pr hp he
    have g := sk_ge (T := T) (n := n) p
    obtain ⟨r, hr⟩ := pSl_tot (T := T) 400 (s := [c]) a.2 (by omega)
    rw [hr] at h
    have : r = .inl e := h
    subst this
    exact pSl_e _ a.2 hr
end
/-- as outR, and the answer is 0 or 1 -/
def outB (h : mxH) (n : Nat) (k : Nat) (r : PR) (x : Int32) (h1 : mxH) : Prop := match r with
  | .inl e => bad h n e h1
  | .inr (s, q) => h1 = mx_wi h 381 11 (nI q) ∧ Vd (Fh h) s x k ∧ (x = 0 ∨ x = 1)
def fc01 (h : mxH) : Prop := (mx_i h 381 15 = 0 ∨ mx_i h 381 15 = 1) ∧ (mx_i h 381 16 = 0 ∨ mx_i h 381 16 = 1)
def p230 (h : mxH) (x : Int32) (h1 : mxH) : Prop := mxK h h1 ∧ (x = 0 ∨ x = 1) ∧ ∀ T n p, Rd h T n p → outB h n 3 (pPl T n p) x h1
theorem sp_230 {d : Nat} {h : mxH} {Q : mxO → mxH → Prop} (G : mxG h) (ok : okT h) (hf : mx_i h 381 12 = -1) (h01 : fc01 h) (k : ∀ x h1, p230 h x h1 → Q (.inl (some (.int x))) h1) : mx_wp (d + 7) 230 0 (mx_fr 230 [.ref 381]) [] h Q := by
  obtain ⟨T, n, p, R⟩ := ok
  have hn := R.1
  have hp := R.2.1
  have skn : sk T n p ≤ n := sk_le hp
  have fin : ∀ x h1, mxK h h1 → (x = 0 ∨ x = 1) → outB h n 3 (pPl T n p) x h1 → Q (.inl (some (.int x))) h1 := by
    intro x h1 K x01 r
    refine k x h1 ⟨K, x01, fun T' n' p' R' => ?_⟩
    obtain ⟨e1, e2, e3⟩ := Rd_uniq R R'
    rw [e1, e2, e3]
    exact r
  have at15 : ∀ {v : Int32}, mx_i (mx_wi h 381 11 v) 381 15 = mx_i h 381 15 := wi_nj (by decide)
  have at16 : ∀ {v : Int32}, mx_i (mx_wi h 381 11 v) 381 16 = mx_i h 381 16 := wi_nj (by decide)
  refine tr_230_0 G ⟨⟨T, n, p, R⟩, by omega, fun x3 h4 u4 => ?_⟩
  rcases u4.2 T n p 17 R (by decide) rfl with ⟨w1, w2, w3⟩ | ⟨w1, w2, w3⟩
  · refine ⟨fun c => absurd (w2.symm.trans c) (by decide), fun _ => ?_⟩
    rw [w3, at15]
    refine ⟨h01.1, fin _ _ mxK_wi h01.1 ?_⟩
    have ep : pPl T n p = .inr ([1007], sk T n p + wl 17) := by unfold pPl; rw [if_pos (show wrd T n 17 p = true from w1)]
    rw [ep]
    exact ⟨rfl, Vd_mono (by decide) (Vd_1 (F := Fh h) (c := 1007) (by decide)), h01.1⟩
  · have w1 : ¬ wrd T n 17 p = true := w1
    have R4 : Rd h4 T n (sk T n p) := by rw [w3]; exact Rd_at R skn
    refine ⟨fun _ => ⟨⟨T, n, _, R4⟩, by omega, fun x10 h11 u11 => ?_⟩, fun c => absurd w2 c⟩
    rcases u11.2 T n _ 18 R4 (by decide) rfl with ⟨v1, v2, v3⟩ | ⟨v1, v2, v3⟩
    · rw [skk] at v1 v3
      rw [w3, wi_wi] at v3
      refine ⟨fun c => absurd (v2.symm.trans c) (by decide), fun _ => ?_⟩
      rw [v3, at16]
      refine ⟨h01.2, fin _ _ mxK_wi h01.2 ?_⟩
      have ep : pPl T n p = .inr ([1008], sk T n p + wl 18) := by unfold pPl; rw [if_neg w1, if_pos (show wrd T n 18 p = true from v1)]
      rw [ep]
      exact ⟨rfl, Vd_mono (by decide) (Vd_1 (F := Fh h) (c := 1008) (by decide)), h01.2⟩
    · rw [skk] at v1 v3
      rw [w3, wi_wi] at v3
      have v1 : ¬ wrd T n 18 p = true := v1
      have ep : pPl T n p = match pSm T n p with
        | .inl e => .inl e
        | .inr (a, q) => if sgn T n 60 q = true then pCm T n 1011 a q else if sgn T n 62 q = true then pCm T n 1012 a q else .inl (sk T n q) := by
        conv => lhs; unfold pPl
        rw [if_neg w1, if_neg v1]
        rfl
      have R11 : Rd h11 T n (sk T n p) := by rw [v3]; exact Rd_at R skn
      have f11 : mx_i h11 381 12 = -1 := by rw [v3]; exact f_at.trans hf
      refine ⟨fun _ => ⟨⟨T, n, _, R11⟩, fun x16 h17 u17 => ?_⟩, fun c => absurd v2 c⟩
      have z := u17.2.2 f11 T n _ R11
      rw [pSm_sk] at z
      have K17 : mxK h h17 := mxK_tr (by rw [v3]; exact mxK_wi) u17.1
      match hs : pSm T n p with
      | .inl e =>
        rw [hs] at z ep
        have b : bad h n e h17 := bad_at (v3 ▸ z)
        have he := pSm_e hn hp hs
        refine ⟨fun y => absurd y (bad_f (by omega) b), fun _ => fin _ _ K17 (.inl rfl) ?_⟩
        rw [ep]
        exact b
      | .inr (a, q) =>
        rw [hs] at z ep
        obtain ⟨z1, z2⟩ := z
        rw [v3, wi_wi] at z1
        rw [v3, Fh_wi (by decide)] at z2
        have ep : pPl T n p = if sgn T n 60 q = true then pCm T n 1011 a q else if sgn T n 62 q = true then pCm T n 1012 a q else .inl (sk T n q) := ep
        have pq := pSm_pr hn hp hs
        have gq := sk_ge (T := T) (n := n) q
        have sq := sk_le (T := T) pq.2
        have R17 : Rd h17 T n q := by rw [z1]; exact Rd_at R pq.2
        have f17 : mx_i h17 381 12 = -1 := by rw [z1]; exact f_at.trans hf
        -- the second sum
        have cmp : ∀ (h27 : mxH) (c : Int32) (vf : Int32 → Int32), 1009 < c → (∀ y, vf y = jn c x16 y) → (∀ y, vf y = 0 ∨ vf y = 1) → sk T n q < n → h27 = mx_wi h 381 11 (nI (sk T n q + 1)) → pPl T n p = pCm T n c a q → (okT h27 ∧ (∀ (x31 : Int32) (h32 : mxH), p229 h27 x31 h32 → (∀ (v35 : Int32), v35 = vf x31 → Q (.inl (some (.int v35))) h32))) := by
          intro h27 c vf hc hvf h01' hlt e27 ep
          have R27 : Rd h27 T n (sk T n q + 1) := by rw [e27]; exact Rd_at R (by omega)
          have f27 : mx_i h27 381 12 = -1 := by rw [e27]; exact f_at.trans hf
          refine ⟨⟨T, n, _, R27⟩, fun x31 h32 u32 v35 e35 => ?_⟩
          have y := u32.2.2 f27 T n _ R27
          have K32 : mxK h h32 := mxK_tr (by rw [e27]; exact mxK_wi) u32.1
          refine fin _ _ K32 (by rw [e35]; exact h01' _) ?_
          unfold pCm at ep
          match hs2 : pSm T n (sk T n q + 1) with
          | .inl e =>
            rw [hs2] at y ep
            rw [ep]
            exact bad_at (e27 ▸ y)
          | .inr (b, q2) =>
            rw [hs2] at y ep
            obtain ⟨y1, y2⟩ := y
            rw [e27, wi_wi] at y1
            rw [e27, Fh_wi (by decide)] at y2
            rw [ep]
            refine ⟨y1, ?_, by rw [e35]; exact h01' _⟩
            rw [e35, hvf]
            exact Vd_2 hc (Vd_mono (by decide) z2) y2 (by decide)
        refine ⟨fun _ => ⟨⟨T, n, q, R17⟩, fun x22 h23 u23 => ?_⟩, fun y => absurd f17 y⟩
        obtain ⟨e23, ex⟩ := u23.2 T n q R17
        rw [z1, wi_wi] at e23
        by_cases c : sk T n q < n ∧ T (sk T n q) = 60
        · rw [if_pos c] at ex
          rw [if_pos (show sgn T n 60 q = true from decide_eq_true c)] at ep
          refine ⟨fun y => absurd (ex.symm.trans y) (by decide), fun hx h27 e27 => ?_⟩
          rw [e23, wi_at rfl rfl, nI_1, wi_wi] at e27
          simp only [if_neg hx]
          refine cmp h27 1011 (fun y => if x16 < y then 1 else 0) (by decide) (fun y => ?_) (fun y => ?_) c.1 e27 ep
          · rfl
          · show (if x16 < y then (1 : Int32) else 0) = 0 ∨ _ = 1
            split
            · exact .inr rfl
            · exact .inl rfl
        · rw [if_neg c] at ex
          rw [if_neg (show ¬ sgn T n 60 q = true from fun y => c (of_decide_eq_true y))] at ep
          have R23 : Rd h23 T n (sk T n q) := by rw [e23]; exact Rd_at R sq
          refine ⟨fun hx => ⟨⟨T, n, _, R23⟩, fun x40 h41 u41 => ?_⟩, fun y => absurd ex y⟩
          obtain ⟨e41, ex2⟩ := u41.2 T n _ R23
          rw [skk] at e41 ex2
          rw [e23, wi_wi] at e41
          by_cases c2 : sk T n q < n ∧ T (sk T n q) = 62
          · rw [if_pos c2] at ex2
            rw [if_pos (show sgn T n 62 q = true from decide_eq_true c2)] at ep
            refine ⟨fun y => absurd (ex2.symm.trans y) (by decide), fun _ h45 e45 => ?_⟩
            rw [e41, wi_at rfl rfl, nI_1, wi_wi] at e45
            simp only [if_pos hx]
            refine cmp h45 1012 (fun y => if y < x16 then 1 else 0) (by decide) (fun y => ?_) (fun y => ?_) c2.1 e45 ep
            · rfl
            · show (if y < x16 then (1 : Int32) else 0) = 0 ∨ _ = 1
              split
              · exact .inr rfl
              · exact .inl rfl
          · rw [if_neg c2] at ex2
            rw [if_neg (show ¬ sgn T n 62 q = true from fun y => c2 (of_decide_eq_true y))] at ep
            refine ⟨fun _ h57 e57 => ?_, fun y => absurd ex2 y⟩
            have f41 : mx_i h41 381 12 = -1 := by rw [e41]; exact f_at.trans hf
            rw [W213f f41, e41, wi_at rfl rfl] at e57
            refine fin _ _ (by rw [e57]; exact mxK_tr mxK_wi mxK_wi) (.inl rfl) ?_
            rw [ep]
            exact ⟨sk T n q, sq, e57⟩
