/-! atom, every, some of the reference: proofs -/
section
variable {T : Nat → Int32} {n : Nat}
theorem pX_0 (f dp : Nat) (s : List Int32) (p : Nat) : pX T n (f + 1) 0 dp s p = if wrd T n 16 p = true then (if dp = 6 then some (.inl (sk T n p)) else bn (pX T n f 0 (dp + 1) [] (sk T n p + wl 16)) (fun s q => some (.inr (s ++ [1009], q)))) else if sgn T n 40 p = true then (if dp = 6 then some (.inl (sk T n p)) else bn (pX T n f 3 (dp + 1) [] (sk T n p + 1)) (fun s q => if sgn T n 41 q = true then some (.inr (s, sk T n q + 1)) else some (.inl (sk T n q)))) else some (pPl T n p) := by rw [pX]
theorem pX_1 (f dp : Nat) (s : List Int32) (p : Nat) : pX T n (f + 1) 1 dp s p = bn (pX T n f 0 dp [] p) (fun s q => pX T n f 2 dp s q) := by rw [pX]
theorem pX_2 (f dp : Nat) (s : List Int32) (q : Nat) : pX T n (f + 1) 2 dp s q = if wrd T n 15 q = true then bn (pX T n f 0 dp [] (sk T n q + wl 15)) (fun w q2 => pX T n f 2 dp (s ++ w ++ [1013]) q2) else some (.inr (s, sk T n q)) := by rw [pX]
theorem pX_3 (f dp : Nat) (s : List Int32) (p : Nat) : pX T n (f + 1) 3 dp s p = bn (pX T n f 1 dp [] p) (fun s q => pX T n f 4 dp s q) := by rw [pX]
theorem pX_4 (f m dp : Nat) (s : List Int32) (q : Nat) : pX T n (f + 1) (m + 4) dp s q = if wrd T n 14 q = true then bn (pX T n f 1 dp [] (sk T n q + wl 14)) (fun w q2 => pX T n f 4 dp (s ++ w ++ [1014]) q2) else some (.inr (s, sk T n q)) := by rw [pX]
theorem bn_up {x y : Option PR} {k k' : List Int32 → Nat → Option PR} {r : PR} (hx : ∀ r, x = some r → y = some r) (hk : ∀ s q r, k s q = some r → k' s q = some r) (h : bn x k = some r) : bn y k' = some r := by
  rcases bn_inr h with ⟨e, e1, e2⟩ | ⟨s, q, e1, e2⟩
  · rw [hx _ e1, e2]; rfl
  · rw [hx _ e1]; exact hk _ _ _ e2
theorem pX_up : ∀ (f m dp : Nat) (s : List Int32) (p : Nat) (r : PR), pX T n f m dp s p = some r → pX T n (f + 1) m dp s p = some r := by
  intro f
  induction f with
  | zero => intro m dp s p r h; cases h
  | succ f ih =>
    intro m dp s p r h
    match m, h with
    | 0, h =>
      rw [pX_0] at h ⊢
      split at h
      · rename_i w
        rw [if_pos w]
        split at h
        · rename_i c; rw [if_pos c]; exact h
        · rename_i c; rw [if_neg c]; exact bn_up (fun r e => ih _ _ _ _ _ e) (fun _ _ _ e => e) h
      · rename_i w
        rw [if_neg w]
        split at h
        · rename_i w2
          rw [if_pos w2]
          split at h
          · rename_i c; rw [if_pos c]; exact h
          · rename_i c; rw [if_neg c]; exact bn_up (fun r e => ih _ _ _ _ _ e) (fun _ _ _ e => e) h
        · rename_i w2; rw [if_neg w2]; exact h
    | 1, h =>
      rw [pX_1] at h ⊢
      exact bn_up (fun r e => ih _ _ _ _ _ e) (fun _ _ _ e => ih _ _ _ _ _ e) h
    | 2, h =>
      rw [pX_2] at h ⊢
      split at h
      · rename_i w; rw [if_pos w]; exact bn_up (fun r e => ih _ _ _ _ _ e) (fun _ _ _ e => ih _ _ _ _ _ e) h
      · rename_i w; rw [if_neg w]; exact h
    | 3, h =>
      rw [pX_3] at h ⊢
      exact bn_up (fun r e => ih _ _ _ _ _ e) (fun _ _ _ e => ih _ _ _ _ _ e) h
    | m + 4, h =>
      rw [pX_4] at h ⊢
      split at h
      · rename_i w; rw [if_pos w]; exact bn_up (fun r e => ih _ _ _ _ _ e) (fun _ _ _ e => ih _ _ _ _ _ e) h
      · rename_i w; rw [if_neg w]; exact h
theorem pX_det {f g m dp : Nat} {s : List Int32} {p : Nat} {r r' : PR} (h : pX T n f m dp s p = some r) (h' : pX T n g m dp s p = some r') : r = r' := by
  have up : ∀ (j f : Nat) (r : PR), pX T n f m dp s p = some r → pX T n (f + j) m dp s p = some r := by
    intro j
    induction j with
    | zero => intro f r h; exact h
    | succ j ih => intro f r h; exact pX_up _ _ _ _ _ _ (ih f r h)
  have a := up g f r h
  have b := up f g r' h'
  rw [Nat.add_comm] at b
  rw [a] at b
  exact Option.some.inj b
theorem pPl_e {p e : Nat} (hn : n ≤ 400) (hp : p ≤ n) (h : pPl T n p = .inl e) : e ≤ n := by
  have cm : ∀ c a q, sk T n q < n → pCm T n c a q = .inl e → e ≤ n := by
    intro c a q hq h
    unfold pCm at h
    split at h
    · rename_i e' he; cases h; exact pSm_e hn (by omega) he
    · cases h
  unfold pPl at h
  split at h
  · cases h
  · split at h
    · cases h
    · split at h
      · rename_i e' he; cases h; exact pSm_e hn hp he
      · rename_i a q he
        have b := pSm_pr hn hp he
        split at h
        · rename_i w; exact cm _ _ _ (sgn_in w).1 h
        · split at h
          · rename_i w; exact cm _ _ _ (sgn_in w).1 h
          · cases h; exact rn_le b.2
theorem pX_e (hn : n ≤ 400) : ∀ (f m dp : Nat) (s : List Int32) (p e : Nat), p ≤ n → pX T n f m dp s p = some (.inl e) → e ≤ n := by
  intro f
  induction f with
  | zero => intro m dp s p e _ h; cases h
  | succ f ih =>
    intro m dp s p e hp h
    have g := sk_ge (T := T) (n := n) p
    have sp := rn_le (c := isSp) (T := T) hp
    match m, h with
    | 0, h =>
      rw [pX_0] at h
      split at h
      · rename_i w
        have w := wrd_in (by decide) w
        split at h
        · cases h; exact sp
        · rcases bn_inr h with ⟨e', e1, e2⟩ | ⟨s1, q1, e1, e2⟩
          · cases e2; exact ih _ _ _ _ _ (by omega) e1
          · cases e2
      · split at h
        · rename_i w
          have w := sgn_in w
          split at h
          · cases h; exact sp
          · rcases bn_inr h with ⟨e', e1, e2⟩ | ⟨s1, q1, e1, e2⟩
            · cases e2; exact ih _ _ _ _ _ (by omega) e1
            · have := (pX_pr hn _ _ _ _ _ _ _ (by omega) e1).2 (by omega)
              split at e2
              · cases e2
              · cases e2; exact rn_le this.2
        · exact pPl_e hn hp (Option.some.inj h)
    | 1, h =>
      rw [pX_1] at h
      rcases bn_inr h with ⟨e', e1, e2⟩ | ⟨s1, q1, e1, e2⟩
      · cases e2; exact ih _ _ _ _ _ hp e1
      · have := (pX_pr hn _ _ _ _ _ _ _ hp e1).2 (by omega)
        exact ih _ _ _ _ _ this.2 e2
    | 2, h =>
      rw [pX_2] at h
      split at h
      · rename_i w
        have w := wrd_in (by decide) w
        rcases bn_inr h with ⟨e', e1, e2⟩ | ⟨s1, q1, e1, e2⟩
        · cases e2; exact ih _ _ _ _ _ (by omega) e1
        · have := (pX_pr hn _ _ _ _ _ _ _ (by omega) e1).2 (by omega)
          exact ih _ _ _ _ _ this.2 e2
      · cases h
    | 3, h =>
      rw [pX_3] at h
      rcases bn_inr h with ⟨e', e1, e2⟩ | ⟨s1, q1, e1, e2⟩
      · cases e2; exact ih _ _ _ _ _ hp e1
      · have := (pX_pr hn _ _ _ _ _ _ _ hp e1).2 (by omega)
        exact ih _ _ _ _ _ this.2 e2
    | m + 4, h =>
      rw [pX_4] at h
      split at h
      · rename_i w
        have w := wrd_in (by decide) w
        rcases bn_inr h with ⟨e', e1, e2⟩ | ⟨s1, q1, e1, e2⟩
        · cases e2; exact ih _ _ _ _ _ (by omega) e1
        · have := (pX_pr hn _ _ _ _ _ _ _ (by omega) e1).2 (by omega)
          exact ih _ _ _ _ _ this.2 e2
      · cases h
end
section
variable {h : mxH}
/-- writes at 11, 12, 13 of the reference, the last ones stand -/
theorem bk1 {a b z e : Int32} {dp : Int32} (hd : mx_i h 381 13 = dp) : mx_wi (mx_wi (mx_wi (mx_wi (mx_wi h 381 11 a) 381 13 b) 381 11 z) 381 12 e) 381 13 dp = mx_wi (mx_wi h 381 11 z) 381 12 e := by
  refine mxH_e (mxK_tr (mxK_tr (mxK_tr (mxK_tr mxK_rfl mxK_rfl) mxK_rfl) mxK_rfl) mxK_rfl) (fun b' j => ?_)
  simp only [wi_i]
  by_cases hb : b' = 381
  · subst hb
    by_cases h13 : j = 13
    · subst h13; simp [hd]
    · by_cases h12 : j = 12
      · subst h12; simp
      · by_cases h11 : j = 11
        · subst h11; simp
        · simp [h11, h12, h13]
  · simp [hb]
theorem bk2 {a b z : Int32} {dp : Int32} (hd : mx_i h 381 13 = dp) : mx_wi (mx_wi (mx_wi (mx_wi h 381 11 a) 381 13 b) 381 11 z) 381 13 dp = mx_wi h 381 11 z := by
  refine mxH_e (mxK_tr (mxK_tr (mxK_tr (mxK_tr mxK_rfl mxK_rfl) mxK_rfl) mxK_rfl) mxK_rfl) (fun b' j => ?_)
  simp only [wi_i]
  by_cases hb : b' = 381
  · subst hb
    by_cases h13 : j = 13
    · subst h13; simp [hd]
    · by_cases h11 : j = 11
      · subst h11; simp
      · simp [h11, h13]
  · simp [hb]
theorem bk0 {a a' b : Int32} : mx_wi (mx_wi (mx_wi h 381 11 a) 381 13 b) 381 11 a' = mx_wi (mx_wi h 381 11 a') 381 13 b := by
  refine mxH_e (mxK_tr (mxK_tr mxK_rfl mxK_rfl) mxK_rfl) (fun b' j => ?_)
  simp only [wi_i]
  by_cases hb : b' = 381
  · subst hb
    by_cases h13 : j = 13
    · subst h13; simp
    · by_cases h11 : j = 11
      · subst h11; simp
      · simp [h11, h13]
  · simp [hb]
theorem bk3 {z z' e : Int32} : mx_wi (mx_wi (mx_wi h 381 11 z) 381 12 e) 381 11 z' = mx_wi (mx_wi h 381 11 z') 381 12 e := by
  refine mxH_e (mxK_tr (mxK_tr mxK_rfl mxK_rfl) mxK_rfl) (fun b' j => ?_)
  simp only [wi_i]
  by_cases hb : b' = 381
  · subst hb
    by_cases h13 : j = 12
    · subst h13; simp
    · by_cases h11 : j = 11
      · subst h11; simp
      · simp [h11, h13]
  · simp [hb]
theorem fc01_wi {k : Nat} {v : Int32} (hk : k ≠ 15 ∧ k ≠ 16) (f : fc01 h) : fc01 (mx_wi h 381 k v) := by
  unfold fc01
  rw [wi_nj (by omega), wi_nj (by omega)]
  exact f
end
def clA (y m D ev : Nat) : Prop := ∀ (d : Nat) {h : mxH} {Q : mxO → mxH → Prop}, mxG h → okA ev h → (∀ x h1, pA m h x h1 → Q (.inl (some (.int x))) h1) → mx_wp (d + D + 3 * ev) y 0 (mx_fr y [.ref 381]) [] h Q
/-- how a spec of these ends -/
theorem pA_fin {m n p k f : Nat} {T : Nat → Int32} {r : PR} {h : mxH} {Q : mxO → mxH → Prop} (R : Rd h T n p) (hk : k ≤ 6) (hd : mx_i h 381 13 = nI k) (hr : pX T n f m k [] p = some r) (kk : ∀ x h1, pA m h x h1 → Q (.inl (some (.int x))) h1) (x : Int32) (h1 : mxH) (K : mxK h h1) (hx : x = 0 ∨ x = 1) (o : outA h n (6 - k) (dA m k) r x h1) : Q (.inl (some (.int x))) h1 := by
  refine kk x h1 ⟨K, hx, fun T' n' p' k' f' r' R' hk' hd' hr' => ?_⟩
  obtain ⟨rfl, rfl, rfl⟩ := Rd_uniq R R'
  have : k' = k := (nI_eq (by omega) (by omega)).mp (hd'.symm.trans hd)
  subst this
  rw [pX_det hr' hr]
  exact o
theorem clA_s {ev : Nat} (hA : clA 231 0 7 ev) (hS : clA 233 3 9 ev) : clA 231 0 7 (ev + 1) := by
  intro d h Q G ok k
  obtain ⟨⟨T, n, p, R⟩, h01, hf, dp, hdp, hd, hev⟩ := ok
  have hn := R.1
  have hp := R.2.1
  have skn : sk T n p ≤ n := sk_le hp
  obtain ⟨r, hr⟩ := pX_tot (T := T) hn 2000 0 dp [] p hp (by omega) (by rw [if_pos rfl]; omega)
  have fin := pA_fin R hdp hd hr k
  rw [show d + 7 + 3 * (ev + 1) = (d + 2 + 3 * ev) + 8 by omega]
  rw [pX_0] at hr
  refine tr_231_0 (ev := ev) (fun G ok k => by
      have := hA (d + 2) G ok k
      rw [show d + 2 + 7 + 3 * ev = d + 2 + 3 * ev + 7 by omega] at this
      exact this) (fun G ok k => by
      have := hS d G ok k
      rw [show d + 9 + 3 * ev = d + 2 + 3 * ev + 7 by omega] at this
      exact this) G ⟨fun _ => ⟨⟨T, n, p, R⟩, fun x3 h4 u4 => ?_⟩, fun c => absurd hf c⟩
  obtain ⟨e4, ex3⟩ := u4.2 T n p R
  have R4 : Rd h4 T n (sk T n p) := by rw [e4]; exact Rd_at R skn
  refine ⟨⟨T, n, _, R4⟩, by omega, fun x9 h10 u10 => ?_⟩
  have D13 : ∀ {v : Int32}, mx_i (mx_wi h 381 11 v) 381 13 = nI dp := fun {v} => (wi_nj (by decide)).trans hd
  have dp6 : nI dp = 6 ↔ dp = 6 := by rw [show (6 : Int32) = nI 6 from rfl]; exact nI_eq (by omega) (by omega)
  rcases u10.2 T n _ 16 R4 (by decide) rfl with ⟨w1, w2, w3⟩ | ⟨w1, w2, w3⟩
  · rw [skk] at w1 w3
    rw [e4, wi_wi] at w3
    have W : wrd T n 16 p = true := w1
    have wi := wrd_in (by decide) W
    rw [if_pos W] at hr
    refine ⟨fun c => absurd (w2.symm.trans c) (by decide), fun x9n => ?_⟩
    have d10 : mx_i h10 381 13 = nI dp := by rw [w3]; exact D13
    refine ⟨fun c6 => ?_, fun c6 => ?_⟩
    · intro h69 e69
      have c6 := dp6.mp (d10.symm.trans c6)
      rw [if_pos c6] at hr
      cases hr
      have f10 : mx_i h10 381 12 = -1 := by rw [w3]; exact f_at.trans hf
      rw [W213f f10, w3, ex3] at e69
      exact fin 0 _ (by rw [e69]; exact mxK_tr mxK_wi mxK_wi) (.inl rfl) ⟨_, Nat.le_trans wi.2 (by omega), e69⟩
    · have c6 : ¬ dp = 6 := fun q => c6 (d10.trans (dp6.mpr q))
      rw [if_neg c6] at hr
      intro h15 e15
      rw [d10, nI_1, w3] at e15
      have R15 : Rd h15 T n (sk T n p + wl 16) := by rw [e15]; exact Rd_wi (Rd_at R wi.2) (by decide)
      have d15 : mx_i h15 381 13 = nI (dp + 1) := by rw [e15]; exact wi_at rfl rfl
      refine ⟨fun c => absurd c x9n, fun _ => ⟨⟨⟨T, n, _, R15⟩, by rw [e15]; exact fc01_wi (by decide) (fc01_wi (by decide) h01), by rw [e15, wi_nj (by decide)]; exact f_at.trans hf, dp + 1, by omega, d15, by omega⟩, fun x60 h61 u61 v64 e64 h65 e65 => ?_⟩⟩
      have F15 : Fh h15 = Fh h := by rw [e15, Fh_wi (by decide), Fh_wi (by decide)]
      have v01 : v64 = 0 ∨ v64 = 1 := by rw [e64]; split <;> simp
      have vv : v64 = 1 - x60 := by
        rcases u61.2.1 with q | q <;> rw [e64, q] <;> decide
      have K65 : mxK h h65 := by rw [e65]; exact mxK_tr (mxK_tr (by rw [e15]; exact mxK_tr mxK_wi mxK_wi) u61.1) mxK_wi
      rcases bn_inr hr with ⟨e, q1, q2⟩ | ⟨s, q, q1, q2⟩
      · subst q2
        obtain ⟨z, hz, e61⟩ := u61.2.2 T n _ _ _ _ R15 (by omega) d15 q1
        have d61 : mx_i h61 381 13 = nI (dp + 1) := by rw [e61, wi_nj (by decide), wi_nj (by decide)]; exact d15
        rw [d61, show (1 : Int32) = nI 1 from rfl, nI_sb (by omega), e61, e15, show dp + 1 - 1 = dp by omega, bk1 hd] at e65
        exact fin _ _ K65 v01 ⟨z, by omega, e65⟩
      · have o := u61.2.2 T n _ _ _ _ R15 (by omega) d15 q1
        obtain ⟨e61, V⟩ := o
        cases q2
        have d61 : mx_i h61 381 13 = nI (dp + 1) := by rw [e61, wi_nj (by decide)]; exact d15
        rw [d61, show (1 : Int32) = nI 1 from rfl, nI_sb (by omega), e61, e15, show dp + 1 - 1 = dp by omega, bk2 hd] at e65
        refine fin _ _ K65 v01 ⟨e65, ?_⟩
        rw [F15] at V
        rw [vv]
        exact Vd_mono (by unfold dA; simp; omega) (Vd_n V)
  · rw [skk] at w1 w3
    rw [e4, wi_wi] at w3
    have W : ¬ wrd T n 16 p = true := w1
    rw [if_neg W] at hr
    have R10 : Rd h10 T n (sk T n p) := by rw [w3]; exact Rd_at R skn
    refine ⟨fun x90 => ⟨⟨T, n, _, R10⟩, fun x74 h75 u75 => ?_⟩, fun c => absurd w2 c⟩
    obtain ⟨e75, ex74⟩ := u75.2 T n _ R10
    rw [skk] at e75 ex74
    rw [w3, wi_wi] at e75
    have R75 : Rd h75 T n (sk T n p) := by rw [e75]; exact Rd_at R skn
    have f75 : mx_i h75 381 12 = -1 := by rw [e75]; exact f_at.trans hf
    by_cases c : sk T n p < n ∧ T (sk T n p) = 40
    · rw [if_pos c] at ex74
      have sg : sgn T n 40 p = true := decide_eq_true c
      rw [if_pos sg] at hr
      have d75 : mx_i h75 381 13 = nI dp := by rw [e75]; exact D13
      refine ⟨fun y => absurd (ex74.symm.trans y) (by decide), fun _ => ⟨fun c6 h134 e134 => ?_, fun c6 h80 e80 => ⟨fun _ h84 e84 => ?_, fun y => absurd x90 y⟩⟩⟩
      · have c6 := dp6.mp (d75.symm.trans c6)
        rw [if_pos c6] at hr
        cases hr
        rw [W213f f75, e75, ex3] at e134
        exact fin 0 _ (by rw [e134]; exact mxK_tr mxK_wi mxK_wi) (.inl rfl) ⟨_, by omega, e134⟩
      · have c6 : ¬ dp = 6 := fun q => c6 (d75.trans (dp6.mpr q))
        rw [if_neg c6] at hr
        rw [d75, nI_1, e75] at e80
        rw [e80, wi_nj (by decide), wi_at rfl rfl, nI_1, bk0] at e84
        have R84 : Rd h84 T n (sk T n p + 1) := by rw [e84]; exact Rd_wi (Rd_at R (by omega)) (by decide)
        have d84 : mx_i h84 381 13 = nI (dp + 1) := by rw [e84]; exact wi_at rfl rfl
        have f84 : mx_i h84 381 12 = -1 := by rw [e84, wi_nj (by decide)]; exact f_at.trans hf
        refine ⟨⟨⟨T, n, _, R84⟩, by rw [e84]; exact fc01_wi (by decide) (fc01_wi (by decide) h01), f84, dp + 1, by omega, d84, by omega⟩, fun x88 h89 u89 => ?_⟩
        have F84 : Fh h84 = Fh h := by rw [e84, Fh_wi (by decide), Fh_wi (by decide)]
        have K89 : mxK h h89 := mxK_tr (by rw [e84]; exact mxK_tr mxK_wi mxK_wi) u89.1
        have x01 := u89.2.1
        rcases bn_inr hr with ⟨e, q1, q2⟩ | ⟨s, q, q1, q2⟩
        · subst q2
          obtain ⟨z, hz, e89⟩ := u89.2.2 T n _ _ _ _ R84 (by omega) d84 q1
          have he := pX_e hn _ _ _ _ _ _ (by omega) q1
          have f89 : ¬ mx_i h89 381 12 = -1 := by rw [e89, wi_at rfl rfl]; exact nI_ne1 (by omega)
          refine ⟨fun y => absurd y f89, fun _ h93 e93 h96 e96 => ⟨x01, ?_⟩⟩
          have a93 : mx_i h89 381 11 = nI z := by rw [e89, wi_nj (by decide)]; exact wi_at rfl rfl
          rw [a93, nI_1, e89, bk3] at e93
          have d93 : mx_i h93 381 13 = nI (dp + 1) := by rw [e93, wi_nj (by decide), wi_nj (by decide)]; exact d84
          rw [d93, show (1 : Int32) = nI 1 from rfl, nI_sb (by omega), e93, e84, show dp + 1 - 1 = dp by omega, bk1 hd] at e96
          exact fin _ _ (by rw [e96]; exact mxK_tr mxK_wi mxK_wi) x01 ⟨z + 1, by omega, e96⟩
        · obtain ⟨e89, V⟩ := u89.2.2 T n _ _ _ _ R84 (by omega) d84 q1
          have pq := (pX_pr hn _ _ _ _ _ _ _ (by omega) q1).2 (by omega)
          have gq := sk_ge (T := T) (n := n) q
          have sq := sk_le (T := T) pq.2
          have R89 : Rd h89 T n q := by rw [e89]; exact Rd_at R84 pq.2
          have f89 : mx_i h89 381 12 = -1 := by rw [e89]; exact f_at.trans f84
          refine ⟨fun _ => ⟨⟨T, n, _, R89⟩, fun x101 h102 u102 => ?_⟩, fun y => absurd f89 y⟩
          obtain ⟨e102, ex101⟩ := u102.2 T n _ R89
          rw [e89, wi_wi] at e102
          have a102 : mx_i h102 381 11 = nI (sk T n q) := by rw [e102]; exact wi_at rfl rfl
          by_cases cc : sk T n q < n ∧ T (sk T n q) = 41
          · rw [if_pos cc] at ex101
            have sg : sgn T n 41 q = true := decide_eq_true cc
            rw [if_pos sg] at q2
            cases q2
            refine ⟨fun y => absurd (ex101.symm.trans y) (by decide), fun _ h106 e106 h109 e109 => ⟨x01, ?_⟩⟩
            rw [a102, nI_1, e102, wi_wi] at e106
            have d106 : mx_i h106 381 13 = nI (dp + 1) := by rw [e106, wi_nj (by decide)]; exact d84
            rw [d106, show (1 : Int32) = nI 1 from rfl, nI_sb (by omega), e106, e84, show dp + 1 - 1 = dp by omega, bk2 hd] at e109
            refine fin _ _ (by rw [e109]; exact mxK_wi) x01 ⟨e109, ?_⟩
            rw [F84] at V
            exact Vd_mono (by unfold dA; simp; omega) V
          · rw [if_neg cc] at ex101
            have sg : ¬ sgn T n 41 q = true := fun y => cc (of_decide_eq_true y)
            rw [if_neg sg] at q2
            cases q2
            refine ⟨fun _ h113 e113 h117 e117 h120 e120 => ⟨x01, ?_⟩, fun y => absurd ex101 y⟩
            have f102 : mx_i h102 381 12 = -1 := by rw [e102]; exact f_at.trans f84
            rw [W213f f102, a102, e102] at e113
            have a113 : mx_i h113 381 11 = nI (sk T n q) := by rw [e113, wi_nj (by decide)]; exact wi_at rfl rfl
            rw [a113, nI_1, e113, bk3] at e117
            have d117 : mx_i h117 381 13 = nI (dp + 1) := by rw [e117, wi_nj (by decide), wi_nj (by decide)]; exact d84
            rw [d117, show (1 : Int32) = nI 1 from rfl, nI_sb (by omega), e117, e84, show dp + 1 - 1 = dp by omega, bk1 hd] at e120
            exact fin _ _ (by rw [e120]; exact mxK_tr mxK_wi mxK_wi) x01 ⟨sk T n q + 1, by omega, e120⟩
    · rw [if_neg c] at ex74
      have sg : ¬ sgn T n 40 p = true := fun y => c (of_decide_eq_true y)
      rw [if_neg sg] at hr
      cases hr
      refine ⟨fun _ => ⟨⟨T, n, _, R75⟩, f75, by rw [e75]; exact fc01_wi (by decide) h01, fun x141 h142 u142 => ?_⟩, fun y => absurd ex74 y⟩
      have o := u142.2.2 T n _ R75
      have K142 : mxK h h142 := mxK_tr (by rw [e75]; exact mxK_wi) u142.1
      have F75 : Fh h75 = Fh h := by rw [e75, Fh_wi (by decide)]
      have ps : pPl T n (sk T n p) = pPl T n p := by
        unfold pPl
        rw [wrd_sk, wrd_sk, skk, pSm_sk]
      rw [ps] at o
      match hpl : pPl T n p, o with
      | .inl e, o =>
        rw [hpl] at fin
        obtain ⟨z, hz, e142⟩ := o
        have x01 : x141 = 0 ∨ x141 = 1 := u142.2.1
        exact ⟨x01, fin _ _ K142 x01 ⟨z, by omega, by rw [e142, e75, wi_wi]⟩⟩
      | .inr (s, q), o =>
        rw [hpl] at fin
        obtain ⟨e142, V, x01⟩ := o
        rw [F75] at V
        exact ⟨x01, fin _ _ K142 x01 ⟨by rw [e142, e75, wi_wi], Vd_mono (by unfold dA; simp) V⟩⟩
