/-! SPECS by hand, 15: what codes are worth; the reference's sums -/
def jn (c x y : Int32) : Int32 := if c = 1010 then x + y else if c = 1011 then (if x < y then 1 else 0) else if c = 1012 then (if y < x then 1 else 0) else if c = 1013 then x &&& y else x ||| y
/-- one code on a stack of at most 64 -/
def rb1 (F : Nat → Int32) (c : Int32) (st : List Int32) : List Int32 := if ¬ 1008 < c ∧ st.length < 64 then cv F c :: st else if c = 1009 then (match st with
  | x :: r => (1 - x) :: r
  | [] => []) else if 1009 < c then (match st with
  | y :: x :: r => jn c x y :: r
  | r => r) else st
def rb (F : Nat → Int32) : List Int32 → List Int32 → List Int32
  | [], st => st
  | c :: s, st => rb F s (rb1 F c st)
theorem rb_app (F : Nat → Int32) : ∀ (a b st : List Int32), rb F (a ++ b) st = rb F b (rb F a st) := by
  intro a
  induction a with
  | nil => intro b st; rfl
  | cons c a ih => intro b st; exact ih b (rb1 F c st)
/-- the codes s come to v, with k places on the stack -/
def Vd (F : Nat → Int32) (s : List Int32) (v : Int32) (k : Nat) : Prop := ∀ st : List Int32, st.length + k ≤ 64 → rb F s st = v :: st
theorem Vd_mono {F : Nat → Int32} {s : List Int32} {v : Int32} {k k' : Nat} (h : k ≤ k') (V : Vd F s v k) : Vd F s v k' := fun st hs => V st (by omega)
theorem Vd_1 {F : Nat → Int32} {c : Int32} (hc : ¬ 1008 < c) : Vd F [c] (cv F c) 1 := by
  intro st hs
  show rb1 F c st = _
  unfold rb1
  rw [if_pos ⟨hc, by omega⟩]
theorem Vd_2 {F : Nat → Int32} {s t : List Int32} {v w c : Int32} {k : Nat} (hc : 1009 < c) (V : Vd F s v k) (W : Vd F t w (k - 1)) (hk : 1 ≤ k) : Vd F (s ++ t ++ [c]) (jn c v w) k := by
  intro st hs
  rw [rb_app, rb_app, V st hs, W (v :: st) (by show st.length + 1 + (k - 1) ≤ 64; omega)]
  show rb1 F c (w :: v :: st) = _
  unfold rb1
  have n1 : ¬ (¬ 1008 < c ∧ (w :: v :: st).length < 64) := fun q => q.1 (by have := hc; grind)
  have n2 : ¬ c = 1009 := fun q => by rw [q] at hc; exact absurd hc (by decide)
  rw [if_neg n1, if_neg n2, if_pos hc]
theorem Vd_n {F : Nat → Int32} {s : List Int32} {v : Int32} {k : Nat} (V : Vd F s v k) : Vd F (s ++ [1009]) (1 - v) k := by
  intro st hs
  rw [rb_app, V st hs]
  show rb1 F 1009 (v :: st) = _
  unfold rb1
  rw [if_neg (fun q => q.1 (by decide)), if_pos rfl]
/-- a part's code is a number, or one of the words -/
theorem pPt_c {T : Nat → Int32} {n p q : Nat} {c : Int32} (h : pPt T n p = .inr (c, q)) : ¬ 1008 < c := by
  unfold pPt at h
  split at h
  · rename_i lt
    split at h
    · rename_i le
      cases h
      have g : ∀ i, i < rn isDg T n (sk T n p) - sk T n p → isDg (T (sk T n p + i)) = true := fun i hi => (rn_in (c := isDg) (T := T) (n := n) (sk T n p) (sk T n p + i) (by omega) (by omega)).2
      obtain ⟨v, hv, e⟩ := dgs_nI _ (by omega) g
      rw [Nat.add_sub_cancel' (by omega)] at e
      have : 10 ^ (rn isDg T n (sk T n p) - sk T n p) ≤ 10 ^ 3 := Nat.pow_le_pow_right (by decide) (by omega)
      rw [e]
      exact fun y => absurd ((nI_ltI (a := 1008) (by decide) (by omega)).mp y) (by omega)
    · cases h
  · unfold pW at h
    repeat' split at h
    all_goals first | (cases h; decide) | cases h
section
variable {h h1 : mxH} {T : Nat → Int32} {n p q : Nat}
theorem Fh_wi {k : Nat} {v : Int32} (hk : k ≠ 15 ∧ k ≠ 16) : Fh (mx_wi h 381 k v) = Fh h := by
  funext j
  unfold Fh
  rw [wi_ne (by decide), wi_nj (by omega), wi_nj (by omega)]
theorem f_at {v : Int32} : mx_i (mx_wi h 381 11 v) 381 12 = mx_i h 381 12 := wi_nj (by decide)
theorem bad_at {e : Nat} (b : bad (mx_wi h 381 11 (nI q)) n e h1) : bad h n e h1 := by
  obtain ⟨z, hz, rfl⟩ := b
  exact ⟨z, hz, by rw [wi_wi]⟩
theorem bad_f {e : Nat} (he : e < 2 ^ 31) (b : bad h n e h1) : ¬ mx_i h1 381 12 = -1 := by
  obtain ⟨z, hz, rfl⟩ := b
  rw [wi_at rfl rfl]
  exact nI_ne1 he
theorem bad_R {e : Nat} (R : Rd h T n p) (b : bad h n e h1) : okT h1 := by
  obtain ⟨z, hz, rfl⟩ := b
  exact ⟨T, n, z, Rd_wi (Rd_at R hz) (by decide)⟩
end
theorem pPt_e {T : Nat → Int32} {n p e : Nat} (hp : p ≤ n) (h : pPt T n p = .inl e) : e ≤ n := by
  have s := sk_le (T := T) hp
  unfold pPt at h
  split at h
  · split at h
    · cases h
    · cases h; exact s
  · unfold pW at h
    repeat' split at h
    all_goals first | (cases h; exact s) | cases h
def outR (h : mxH) (n : Nat) (k : Nat) (r : PR) (x : Int32) (h1 : mxH) : Prop := match r with
  | .inl e => bad h n e h1
  | .inr (s, q) => h1 = mx_wi h 381 11 (nI q) ∧ Vd (Fh h) s x k
def p229 (h : mxH) (x : Int32) (h1 : mxH) : Prop := mxK h h1 ∧ (¬ mx_i h 381 12 = -1 → h1 = h) ∧ (mx_i h 381 12 = -1 → ∀ T n p, Rd h T n p → outR h n 2 (pSm T n p) x h1)
theorem H229 {d n : Nat} {T : Nat → Int32} {h0 : mxH} {Q : mxO → mxH → Prop} {R : PR} {p0 : Nat} (G : mxG h0) (R0 : Rd h0 T n p0) (hf : mx_i h0 381 12 = -1) (fin : ∀ x h1, mxK h0 h1 → outR h0 n 2 R x h1 → Q (.inl (some (.int x))) h1) : ∀ (g q : Nat) (s : List Int32) (i1 : Int32), q ≤ n → Vd (Fh h0) s i1 2 → pSl T n g s q = some R → H_229_3 (d + 6) (mx_wi h0 381 11 (nI q)) i1 Q := by
  have hn := R0.1
  intro g
  induction g with
  | zero => intro q s i1 hq V hR; cases hR
  | succ g ih =>
    intro q s i1 hq V hR
    have Rq := Rd_at R0 hq
    have gq := sk_ge (T := T) (n := n) q
    have sq := sk_le (T := T) hq
    rw [pSl_s] at hR
    refine tr_229_3 (mxG_wi G) ⟨fun _ => ⟨⟨T, n, q, Rq⟩, fun x3 h4 u4 => ?_⟩, fun c => absurd (f_at.trans hf) c⟩
    obtain ⟨e4, ex⟩ := u4.2 T n q Rq
    rw [wi_wi] at e4
    by_cases c : sk T n q < n ∧ T (sk T n q) = 43
    · rw [if_pos c] at ex
      have sg : sgn T n 43 q = true := decide_eq_true c
      rw [if_pos sg] at hR
      refine ⟨fun y => absurd (ex.symm.trans y) (by decide), fun _ h8 e8 => ?_⟩
      rw [e4, wi_at rfl rfl, nI_1, wi_wi] at e8
      have R8 : Rd h8 T n (sk T n q + 1) := by rw [e8]; exact Rd_at R0 (by omega)
      refine ⟨⟨T, n, _, R8⟩, fun x12 h13 u13 => ?_⟩
      have f8 : mx_i h8 381 12 = -1 := by rw [e8]; exact f_at.trans hf
      have z := u13.2.2 f8 T n _ R8
      match hp : pPt T n (sk T n q + 1) with
      | .inl e =>
        rw [hp] at z hR
        cases hR
        have b : bad h0 n e h13 := bad_at (e8 ▸ z)
        have he := pPt_e (by omega) hp
        refine tr_229_3 (mxK_G u13.1 (by rw [e8]; exact mxG_wi G)) ⟨fun y => absurd y (bad_f (by omega) b), fun _ => fin _ _ (by
          rw [e8] at u13
          exact mxK_tr mxK_wi u13.1) b⟩
      | .inr (cc, q2) =>
        rw [hp] at z hR
        obtain ⟨z1, z2⟩ := z
        rw [e8, wi_wi] at z1
        rw [e8, Fh_wi (by decide)] at z2
        have pq := pPt_pr (by omega) hp
        rw [z1, z2]
        refine ih q2 (s ++ [cc, 1010]) _ pq.2 ?_ hR
        have : Vd (Fh h0) (s ++ [cc] ++ [1010]) (jn 1010 i1 (cv (Fh h0) cc)) 2 := Vd_2 (by decide) V (Vd_1 (pPt_c hp)) (by decide)
        rw [show s ++ [cc] ++ [1010] = s ++ [cc, 1010] by simp] at this
        exact this
    · rw [if_neg c] at ex
      have sg : ¬ sgn T n 43 q = true := fun y => c (of_decide_eq_true y)
      rw [if_neg sg] at hR
      cases hR
      refine ⟨fun _ => fin _ _ (by rw [e4]; exact mxK_wi) ⟨e4, V⟩, fun y => absurd ex y⟩
theorem sp_229 {d : Nat} {h : mxH} {Q : mxO → mxH → Prop} (G : mxG h) (ok : okT h) (k : ∀ x h1, p229 h x h1 → Q (.inl (some (.int x))) h1) : mx_wp (d + 6) 229 0 (mx_fr 229 [.ref 381]) [] h Q := by
  obtain ⟨T, n, p, R⟩ := ok
  have hn := R.1
  refine tr_229_0 G ⟨⟨T, n, p, R⟩, fun x2 h3 u3 => ?_⟩
  by_cases hf : mx_i h 381 12 = -1
  · have fin : ∀ x h1, mxK h h1 → outR h n 2 (pSm T n p) x h1 → Q (.inl (some (.int x))) h1 := by
      intro x h1 K r
      refine k x h1 ⟨K, fun c => absurd hf c, fun _ T' n' p' R' => ?_⟩
      obtain ⟨e1, e2, e3⟩ := Rd_uniq R R'
      rw [e1, e2, e3]
      exact r
    have z := u3.2.2 hf T n p R
    match hp : pPt T n p with
    | .inl e =>
      rw [hp] at z
      have he := pPt_e R.2.1 hp
      refine tr_229_3 (mxK_G u3.1 G) ⟨fun y => absurd y (bad_f (by omega) z), fun _ => fin _ _ u3.1 ?_⟩
      unfold pSm
      rw [hp]
      exact z
    | .inr (c, q) =>
      rw [hp] at z
      obtain ⟨z1, z2⟩ := z
      have pq := pPt_pr R.2.1 hp
      obtain ⟨r, hr⟩ := pSl_tot (T := T) 400 (s := [c]) pq.2 (by have := sk_ge (T := T) (n := n) p; omega)
      have eR : pSm T n p = r := by unfold pSm; rw [hp]; simp only []; rw [hr]; rfl
      rw [eR] at fin
      rw [z1, z2]
      exact H229 G R hf fin 400 q [c] _ pq.2 (Vd_mono (by decide) (Vd_1 (pPt_c hp))) hr
  · obtain ⟨e1, e2⟩ := u3.2.1 hf
    subst e2
    exact tr_229_3 G ⟨fun c => absurd c hf, fun _ => k _ _ ⟨mxK_rfl, fun _ => rfl, fun c => absurd c hf⟩⟩
