/-! SPECS by hand, 18: a line of the law, as the reference reads it -/
/-- codes hold: the stack is empty at the end, or what lies lowest on it is not 0 -/
def hl (F : Nat → Int32) (s : List Int32) : Bool := match (rb F s []).reverse with
  | [] => true
  | x :: _ => decide (¬ x = 0)
theorem hl_nil {F : Nat → Int32} : hl F [] = true := rfl
theorem hl_Vd {F : Nat → Int32} {s : List Int32} {x : Int32} {k : Nat} (hk : k ≤ 64) (V : Vd F s x k) : hl F s = decide (¬ x = 0) := by
  unfold hl
  rw [V [] (by simpa using hk)]
  rfl
def frA (h h1 : mxH) : Prop := mxK h h1 ∧ ∀ b j, ¬ (b = 381 ∧ (j = 11 ∨ j = 12 ∨ j = 17 ∨ j = 18 ∨ j = 19)) → mx_i h1 b j = mx_i h b j
theorem frA_rfl {h : mxH} : frA h h := ⟨mxK_rfl, fun _ _ _ => rfl⟩
theorem frA_tr {h h1 h2 : mxH} (u : frA h h1) (w : frA h1 h2) : frA h h2 := ⟨mxK_tr u.1 w.1, fun b j c => (w.2 b j c).trans (u.2 b j c)⟩
theorem frA_wi {h : mxH} {k : Nat} {v : Int32} (hk : k = 11 ∨ k = 12 ∨ k = 17 ∨ k = 18 ∨ k = 19) : frA h (mx_wi h 381 k v) := ⟨mxK_wi, fun b j c => by
  rw [wi_i, if_neg]
  rintro ⟨rfl, rfl⟩
  exact c ⟨rfl, hk⟩⟩
theorem frA_bad {h h1 : mxH} {n b e : Nat} (u : badB h n b e h1) : frA h h1 := by
  obtain ⟨z, -, rfl⟩ := u
  exact frA_tr (frA_wi (by decide)) (frA_wi (by decide))
theorem frA_Rd {h h1 : mxH} {T : Nat → Int32} {n p q : Nat} (u : frA h h1) (R : Rd h T n p) (e : mx_i h1 381 11 = nI q) (hq : q ≤ n) : Rd h1 T n q := by
  obtain ⟨a1, a2, a3, a4, a5, a6⟩ := R
  have n1 : ∀ j, j ≠ 11 → j ≠ 12 → j < 17 → mx_i h1 381 j = mx_i h 381 j := fun j b c d => u.2 381 j (by omega)
  refine ⟨a1, hq, by rw [n1 10 (by decide) (by decide) (by decide)]; exact a3, e, a5, ?_⟩
  rw [n1 9 (by decide) (by decide) (by decide)]
  rcases a6 with ⟨x, y⟩ | ⟨x, y⟩
  · exact .inl ⟨x, fun k hk => (u.2 386 k (by omega)).trans (y k hk)⟩
  · exact .inr ⟨x, fun k hk => (u.2 382 _ (by omega)).trans (y k hk)⟩
theorem frA_F {h h1 : mxH} (u : frA h h1) : Fh h1 = Fh h := by
  funext j
  unfold Fh
  rw [u.2 387 j (by omega), u.2 381 15 (by omega), u.2 381 16 (by omega)]
theorem frA_01 {h h1 : mxH} (u : frA h h1) (f : fc01 h) : fc01 h1 := by
  unfold fc01
  rw [u.2 381 15 (by omega), u.2 381 16 (by omega)]
  exact f
def addT (h h1 : mxH) (v a : Int32) : Prop := ∀ j, j < 3 → mx_i h1 381 (17 + j) = mx_i h 381 (17 + j) + (if v = nI j then a else 0)
theorem ad3 {h h1 h2 h3 : mxH} {v1 v2 v3 kk a : Int32} (e1 : v1 = if kk = 0 then a else 0) (f1 : h1 = mx_wi h 381 17 (mx_i h 381 17 + v1)) (e2 : v2 = if kk = 1 then a else 0) (f2 : h2 = mx_wi h1 381 18 (mx_i h1 381 18 + v2)) (e3 : v3 = if kk = 2 then a else 0) (f3 : h3 = mx_wi h2 381 19 (mx_i h2 381 19 + v3)) : frA h h3 ∧ mx_i h3 381 11 = mx_i h 381 11 ∧ mx_i h3 381 12 = mx_i h 381 12 ∧ addT h h3 kk a := by
  have k1 : frA h h1 := by rw [f1]; exact frA_wi (by decide)
  have k2 : frA h1 h2 := by rw [f2]; exact frA_wi (by decide)
  have k3 : frA h2 h3 := by rw [f3]; exact frA_wi (by decide)
  refine ⟨frA_tr (frA_tr k1 k2) k3, ?_, ?_, fun j hj => ?_⟩
  · rw [f3, wi_nj (by decide), f2, wi_nj (by decide), f1, wi_nj (by decide)]
  · rw [f3, wi_nj (by decide), f2, wi_nj (by decide), f1, wi_nj (by decide)]
  · have : j = 0 ∨ j = 1 ∨ j = 2 := by omega
    rcases this with rfl | rfl | rfl
    · rw [f3, wi_nj (by decide), f2, wi_nj (by decide), f1, wi_at rfl rfl, e1]; rfl
    · rw [f3, wi_nj (by decide), f2, wi_at rfl rfl, f1, wi_nj (by decide), e2]; rfl
    · rw [f3, wi_at rfl rfl, f2, wi_nj (by decide), f1, wi_nj (by decide), e3]; rfl
def outLn (h : mxH) (T : Nat → Int32) (n : Nat) (r : Sum Nat (LL × Nat)) (h1 : mxH) : Prop := match r with
  | .inl e => badB h n 6 e h1
  | .inr (L, q) => ∃ q', q' ≤ n ∧ sk T n q' = sk T n q ∧ mx_i h1 381 11 = nI q' ∧ mx_i h1 381 12 = -1 ∧ ∀ j, j < 3 → mx_i h1 381 (17 + j) = mx_i h 381 (17 + j) + (if L.1 = nI j ∧ hl (Fh h) L.2.2 = true then L.2.1 else 0)
def p234 (h h1 : mxH) : Prop := frA h h1 ∧ ∀ T n p, Rd h T n p → outLn h T n (pLine T n p) h1
theorem t234 {h h4 : mxH} {Q : mxO → mxH → Prop} {T : Nat → Int32} {n p q : Nat} {kk : Int32} (R : Rd h T n p) (hf : mx_i h 381 12 = -1) (h01 : fc01 h) (hd : mx_i h 381 13 = 0) (pk : pKd T n p = .inr (kk, q)) (hq : q ≤ n) (e4 : h4 = mx_wi h 381 11 (nI q)) (fin : ∀ h1, frA h h1 → outLn h T n (pLine T n p) h1 → Q (.inl none) h1) :
    (okT h4 ∧ (∀ (x149 : Int32) (h150 : mxH), p215 (0 : Int32) (99 : Int32) h4 x149 h150 → (((mx_i h150 381 12) = (-1) → (okT h150 ∧ (30 ≤ 56 ∧ 56 < 82 ∧ 56 % 2 = 0) ∧ (∀ (x156 : Int32) (h157 : mxH), p212 56 h150 x156 h157 → ((x156 = 0 → (((mx_i h157 381 12) = (-1) → (((1 : Int32) = 0 → Q (.inl none) h157) ∧ (¬ (1 : Int32) = 0 → (∀ (v163 : Int32), v163 = ((if kk = 0 then x149 else 0) : Int32) → (∀ h164, h164 = mx_wi h157 381 17 ((mx_i h157 381 17) + v163) → (∀ (v167 : Int32), v167 = ((if kk = 1 then x149 else 0) : Int32) → (∀ h168, h168 = mx_wi h164 381 18 ((mx_i h164 381 18) + v167) → (∀ (v171 : Int32), v171 = ((if kk = 2 then x149 else 0) : Int32) → (∀ h172, h172 = mx_wi h168 381 19 ((mx_i h168 381 19) + v171) → Q (.inl none) h172))))))))) ∧ (¬ (mx_i h157 381 12) = (-1) → Q (.inl none) h157))) ∧ (¬ x156 = 0 → (okT h157 ∧ mx_i h157 381 12 = -1 ∧ fc01 h157 ∧ mx_i h157 381 13 = 0 ∧ (∀ (x182 : Int32) (h183 : mxH), p233 h157 x182 h183 → (∀ (v186 : Int32), v186 = ((if x182 = 0 then 0 else 1) : Int32) → (((mx_i h183 381 12) = (-1) → ((v186 = 0 → Q (.inl none) h183) ∧ (¬ v186 = 0 → (∀ (v189 : Int32), v189 = ((if kk = 0 then x149 else 0) : Int32) → (∀ h190, h190 = mx_wi h183 381 17 ((mx_i h183 381 17) + v189) → (∀ (v193 : Int32), v193 = ((if kk = 1 then x149 else 0) : Int32) → (∀ h194, h194 = mx_wi h190 381 18 ((mx_i h190 381 18) + v193) → (∀ (v197 : Int32), v197 = ((if kk = 2 then x149 else 0) : Int32) → (∀ h198, h198 = mx_wi h194 381 19 ((mx_i h194 381 19) + v197) → Q (.inl none) h198))))))))) ∧ (¬ (mx_i h183 381 12) = (-1) → Q (.inl none) h183)))))))))) ∧ (¬ (mx_i h150 381 12) = (-1) → Q (.inl none) h150)))) := by
  have hn := R.1
  have R4 : Rd h4 T n q := by rw [e4]; exact Rd_at R hq
  have f4 : mx_i h4 381 12 = -1 := by rw [e4]; exact f_at.trans hf
  have K4 : frA h h4 := by rw [e4]; exact frA_wi (by decide)
  have ep : pLine T n p = if sk T n q < endN T n q ∧ endN T n q ≤ sk T n q + 3 ∧ ¬ numN T n q < 0 ∧ ¬ 99 < numN T n q then (if wrd T n 13 (endN T n q) = true then (match cnd T n (sk T n (endN T n q) + wl 13) with
      | .inl e => .inl e
      | .inr (s, q2) => .inr ((kk, numN T n q, s), q2)) else .inr ((kk, numN T n q, []), endN T n q)) else .inl (sk T n q) := by
    conv => lhs; unfold pLine
    rw [pk]
    rfl
  rw [ep] at fin
  refine ⟨⟨T, n, q, R4⟩, fun x149 h150 u150 => ?_⟩
  rcases u150.2.2 f4 T n q R4 with ⟨g, ex, e150⟩ | ⟨g, z, z1, z2, e150⟩
  · rw [if_pos (show sk T n q < endN T n q ∧ endN T n q ≤ sk T n q + 3 ∧ ¬ numN T n q < 0 ∧ ¬ 99 < numN T n q from g)] at fin
    have en : endN T n q ≤ n := rn_le (sk_le hq)
    rw [e4, wi_wi] at e150
    have f150 : mx_i h150 381 12 = -1 := by rw [e150]; exact f_at.trans hf
    have R150 : Rd h150 T n (endN T n q) := by rw [e150]; exact Rd_at R en
    refine ⟨fun _ => ⟨⟨T, n, _, R150⟩, by omega, fun x156 h157 u157 => ?_⟩, fun c => absurd f150 c⟩
    rcases u157.2 T n _ 13 R150 (by decide) rfl with ⟨w1, w2, w3⟩ | ⟨w1, w2, w3⟩
    · have W : wrd T n 13 (endN T n q) = true := w1
      have wi := wrd_in (by decide) W
      rw [if_pos W] at fin
      rw [e150, wi_wi] at w3
      have R157 : Rd h157 T n (sk T n (endN T n q) + wl 13) := by rw [w3]; exact Rd_at R wi.2
      have f157 : mx_i h157 381 12 = -1 := by rw [w3]; exact f_at.trans hf
      have K157 : frA h h157 := by rw [w3]; exact frA_wi (by decide)
      refine ⟨fun c => absurd (w2.symm.trans c) (by decide), fun _ => ⟨⟨T, n, _, R157⟩, f157, frA_01 K157 h01, by rw [w3, wi_nj (by decide)]; exact hd, fun x182 h183 u183 v186 e186 => ?_⟩⟩
      have o := u183.2.2 T n _ R157
      match hc : cnd T n (sk T n (endN T n q) + wl 13), o with
      | .inl e, o =>
        rw [hc] at fin
        obtain ⟨z, hz, e183⟩ := o
        have he : e ≤ n := pX_e hn _ _ _ _ _ _ wi.2 (by rw [cnd_x hn wi.2, hc])
        rw [w3, wi_wi] at e183
        have B : badB h n 6 e h183 := ⟨z, hz, e183⟩
        exact ⟨fun y => absurd y (by rw [e183, wi_at rfl rfl]; exact nI_ne1 (by omega)), fun _ => fin _ (frA_bad B) B⟩
      | .inr (s, q2), o =>
        rw [hc] at fin
        obtain ⟨e183, V⟩ := o
        have cp := cnd_pr hn wi.2 hc
        rw [frA_F K157] at V
        rw [w3, wi_wi] at e183
        have f183 : mx_i h183 381 12 = -1 := by rw [e183]; exact f_at.trans hf
        have K183 : frA h h183 := by rw [e183]; exact frA_wi (by decide)
        have H := hl_Vd (by decide) V
        refine ⟨fun _ => ⟨fun c => ?_, fun c v189 e189 h190 e190 v193 e193 h194 e194 v197 e197 h198 e198 => ?_⟩, fun y => absurd f183 y⟩
        · have x0 : x182 = 0 := by
            rcases u183.2.1 with y | y
            · exact y
            · rw [e186, y] at c; exact absurd c (by decide)
          refine fin _ K183 ⟨q2, cp.2.2, rfl, by rw [e183]; exact wi_at rfl rfl, f183, fun j hj => ?_⟩
          rw [e183, wi_nj (by omega), H, x0]
          simp
        · have x1 : x182 = 1 := by
            rcases u183.2.1 with y | y
            · rw [e186, y] at c; exact absurd rfl c
            · exact y
          obtain ⟨a1, a2, a3, a4⟩ := ad3 e189 e190 e193 e194 e197 e198
          refine fin _ (frA_tr K183 a1) ⟨q2, cp.2.2, rfl, by rw [a2, e183]; exact wi_at rfl rfl, a3.trans f183, fun j hj => ?_⟩
          rw [a4 j hj, H, x1, ex, e183, wi_nj (by omega)]
          simp
    · have W : ¬ wrd T n 13 (endN T n q) = true := w1
      rw [if_neg W] at fin
      rw [e150, wi_wi] at w3
      have f157 : mx_i h157 381 12 = -1 := by rw [w3]; exact f_at.trans hf
      have K157 : frA h h157 := by rw [w3]; exact frA_wi (by decide)
      refine ⟨fun _ => ⟨fun _ => ⟨fun c => absurd c (by decide), fun _ v189 e189 h190 e190 v193 e193 h194 e194 v197 e197 h198 e198 => ?_⟩, fun y => absurd f157 y⟩, fun c => absurd w2 c⟩
      obtain ⟨a1, a2, a3, a4⟩ := ad3 e189 e190 e193 e194 e197 e198
      refine fin _ (frA_tr K157 a1) ⟨_, sk_le en, skk _, by rw [a2, w3]; exact wi_at rfl rfl, a3.trans f157, fun j hj => ?_⟩
      rw [a4 j hj, ex, w3, wi_nj (by omega)]
      simp [hl_nil]
  · rw [if_neg (show ¬ (sk T n q < endN T n q ∧ endN T n q ≤ sk T n q + 3 ∧ ¬ numN T n q < 0 ∧ ¬ 99 < numN T n q) from g)] at fin
    rw [e4, wi_wi] at e150
    have B : badB h n 6 (sk T n q) h150 := ⟨z, by omega, e150⟩
    have := sk_le (T := T) hq
    exact ⟨fun y => absurd y (by rw [e150, wi_at rfl rfl]; exact nI_ne1 (by omega)), fun _ => fin _ (frA_bad B) B⟩
theorem sp_234 {d : Nat} {h : mxH} {Q : mxO → mxH → Prop} (G : mxG h) (ok : okT h) (hf : mx_i h 381 12 = -1) (h01 : fc01 h) (hd : mx_i h 381 13 = 0) (k : ∀ h1, p234 h h1 → Q (.inl none) h1) : mx_wp (d + 31) 234 0 (mx_fr 234 [.ref 381]) [] h Q := by
  obtain ⟨T, n, p, R⟩ := ok
  have hn := R.1
  have hp := R.2.1
  have skn : sk T n p ≤ n := sk_le hp
  have fin : ∀ h1, frA h h1 → outLn h T n (pLine T n p) h1 → Q (.inl none) h1 := by
    intro h1 K r
    refine k h1 ⟨K, fun T' n' p' R' => ?_⟩
    obtain ⟨e1, e2, e3⟩ := Rd_uniq R R'
    rw [e1, e2, e3]
    exact r
  refine tr_234_0 G ⟨⟨T, n, p, R⟩, by omega, fun x3 h4 u4 => ?_⟩
  rcases u4.2 T n _ 10 R (by decide) rfl with ⟨w1, w2, w3⟩ | ⟨w1, w2, w3⟩
  · refine ⟨fun c => absurd (w2.symm.trans c) (by decide), fun _ => ⟨fun c => absurd c (by decide), fun _ => ?_⟩⟩
    exact t234 R hf h01 hd (by unfold pKd; rw [if_pos (show wrd T n 10 p = true from w1)]) (wrd_in (by decide) w1).2 w3 fin
  · have R4 : Rd h4 T n (sk T n p) := by rw [w3]; exact Rd_at R skn
    refine ⟨fun _ => ⟨⟨T, n, _, R4⟩, by omega, fun x10 h11 u11 => ?_⟩, fun c => absurd w2 c⟩
    rcases u11.2 T n _ 11 R4 (by decide) rfl with ⟨v1, v2, v3⟩ | ⟨v1, v2, v3⟩
    · rw [skk] at v1 v3
      rw [w3, wi_wi] at v3
      refine ⟨fun c => absurd (v2.symm.trans c) (by decide), fun _ => ⟨fun c => absurd c (by decide), fun _ => ?_⟩⟩
      exact t234 R hf h01 hd (by unfold pKd; rw [if_neg (show ¬ wrd T n 10 p = true from w1), if_pos (show wrd T n 11 p = true from v1)]) (wrd_in (by decide) v1).2 v3 fin
    · rw [skk] at v1 v3
      rw [w3, wi_wi] at v3
      have R11 : Rd h11 T n (sk T n p) := by rw [v3]; exact Rd_at R skn
      refine ⟨fun _ => ⟨⟨T, n, _, R11⟩, by omega, fun x17 h18 u18 v21 e21 => ?_⟩, fun c => absurd v2 c⟩
      rcases u18.2 T n _ 12 R11 (by decide) rfl with ⟨y1, y2, y3⟩ | ⟨y1, y2, y3⟩
      · rw [skk] at y1 y3
        rw [v3, wi_wi] at y3
        rw [y2, if_neg (by decide)] at e21
        subst e21
        refine ⟨fun c => absurd c (by decide), fun _ => ?_⟩
        exact t234 R hf h01 hd (by unfold pKd; rw [if_neg (show ¬ wrd T n 10 p = true from w1), if_neg (show ¬ wrd T n 11 p = true from v1), if_pos (show wrd T n 12 p = true from y1)]) (wrd_in (by decide) y1).2 y3 fin
      · rw [skk] at y1 y3
        rw [v3, wi_wi] at y3
        rw [y2, if_pos rfl] at e21
        subst e21
        refine ⟨fun _ h80 e80 => ?_, fun c => absurd rfl c⟩
        have f18 : mx_i h18 381 12 = -1 := by rw [y3]; exact f_at.trans hf
        rw [W213f f18, y3, wi_at rfl rfl] at e80
        have ep : pLine T n p = .inl (sk T n p) := by
          unfold pLine pKd
          rw [if_neg (show ¬ wrd T n 10 p = true from w1), if_neg (show ¬ wrd T n 11 p = true from v1), if_neg (show ¬ wrd T n 12 p = true from y1)]
        rw [ep] at fin
        have B : badB h n 6 (sk T n p) h80 := ⟨_, by omega, e80⟩
        exact fin _ (frA_bad B) B
/-- blanks are passed over; nothing is done behind the end -/
def okT2 (h : mxH) : Prop := okT h ∨ ¬ mx_i h 381 11 < mx_i h 381 10
def psk2 (h h1 : mxH) : Prop := psk h h1 ∧ (¬ mx_i h 381 11 < mx_i h 381 10 → h1 = h)
theorem sp_210b {d : Nat} {h : mxH} {Q : mxO → mxH → Prop} (G : mxG h) (ok : okT2 h) (k : ∀ h1, (mxK h h1 ∧ psk2 h h1) → Q (.inl none) h1) : mx_wp (d + 1) 210 0 (mx_fr 210 [.ref 381]) [] h Q := by
  by_cases c : mx_i h 381 11 < mx_i h 381 10
  · rcases ok with o | o
    · exact sp_210 G o (fun h1 u => k h1 ⟨u.1, u.2, fun y => absurd c y⟩)
    · exact absurd c o
  · refine tr_210_e G (tr_210_0 G ⟨fun y => absurd y c, fun _ => k h ⟨mxK_rfl, fun T n p R => ?_, fun _ => rfl⟩⟩)
    rw [Rd_lt R] at c
    have : sk T n p = p := rn_n (fun y => c y.1)
    rw [this, wi_id R.2.2.2.1]
