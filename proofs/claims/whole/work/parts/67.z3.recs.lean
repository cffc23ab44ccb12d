/-! every, some of the reference -/
theorem H232 {ev d n dp : Nat} {T : Nat → Int32} {h0 : mxH} {Q : mxO → mxH → Prop} {R : PR} {p0 : Nat} (hA : clA 231 0 7 ev) (G : mxG h0) (R0 : Rd h0 T n p0) (h01 : fc01 h0) (hf : mx_i h0 381 12 = -1) (hdp : dp ≤ 6) (hd : mx_i h0 381 13 = nI dp) (hev : 6 < dp + ev) (fin : ∀ x h1, mxK h0 h1 → (x = 0 ∨ x = 1) → outA h0 n (6 - dp) (dA 1 dp) R x h1 → Q (.inl (some (.int x))) h1) : ∀ (g q : Nat) (s : List Int32) (i1 : Int32), q ≤ n → (i1 = 0 ∨ i1 = 1) → Vd (Fh h0) s i1 (dA 1 dp) → pX T n g 2 dp s q = some R → H_232_3 (d + 0 + 3 * ev + 8) (mx_wi h0 381 11 (nI q)) i1 Q := by
  have hn := R0.1
  intro g
  induction g with
  | zero => intro q s i1 hq i01 V hR; cases hR
  | succ g ih =>
    intro q s i1 hq i01 V hR
    have Rq := Rd_at R0 hq
    have gq := sk_ge (T := T) (n := n) q
    have sq := sk_le (T := T) hq
    rw [pX_2] at hR
    refine tr_232_3 (ev := ev) (fun G ok k => by
      have := hA (d + 0) G ok k
      rw [show d + 0 + 7 + 3 * ev = d + 0 + 3 * ev + 7 by omega] at this
      exact this) (mxG_wi G) ⟨fun _ => ⟨⟨T, n, q, Rq⟩, by omega, fun x5 h6 u6 => ?_⟩, fun c => absurd (f_at.trans hf) c⟩
    rcases u6.2 T n _ 15 Rq (by decide) rfl with ⟨w1, w2, w3⟩ | ⟨w1, w2, w3⟩
    · rw [wi_wi] at w3
      have W : wrd T n 15 q = true := w1
      have wi := wrd_in (by decide) W
      rw [if_pos W] at hR
      refine ⟨fun c => absurd (w2.symm.trans c) (by decide), fun _ => ?_⟩
      have R6 : Rd h6 T n (sk T n q + wl 15) := by rw [w3]; exact Rd_at R0 wi.2
      have d6 : mx_i h6 381 13 = nI dp := by rw [w3, wi_nj (by decide)]; exact hd
      refine ⟨⟨⟨T, n, _, R6⟩, by rw [w3]; exact fc01_wi (by decide) h01, by rw [w3]; exact f_at.trans hf, dp, hdp, d6, hev⟩, fun x12 h13 u13 v16 e16 => ?_⟩
      have F6 : Fh h6 = Fh h0 := by rw [w3, Fh_wi (by decide)]
      have v01 : v16 = 0 ∨ v16 = 1 := by
        rw [e16]
        repeat' split
        all_goals first | exact .inl rfl | exact .inr rfl
      have vv : v16 = jn 1013 i1 x12 := by
        rcases i01 with q | q <;> rcases u13.2.1 with q' | q' <;> rw [e16, q, q'] <;> decide
      have K13 : mxK h0 h13 := mxK_tr (by rw [w3]; exact mxK_wi) u13.1
      rcases bn_inr hR with ⟨e, q1, q2⟩ | ⟨w, q', q1, q2⟩
      · subst q2
        obtain ⟨z, hz, e13⟩ := u13.2.2 T n _ _ _ _ R6 hdp d6 q1
        have he := pX_e hn _ _ _ _ _ _ wi.2 q1
        rw [w3, wi_wi] at e13
        refine tr_232_3 (ev := ev) (fun G ok k => by
          have := hA (d + 0) G ok k
          rw [show d + 0 + 7 + 3 * ev = d + 0 + 3 * ev + 7 by omega] at this
          exact this) (mxK_G K13 G) ⟨fun y => absurd y (by rw [e13, wi_at rfl rfl]; exact nI_ne1 (by omega)), fun _ => ⟨v01, fin _ _ K13 v01 ⟨z, hz, e13⟩⟩⟩
      · obtain ⟨e13, V2⟩ := u13.2.2 T n _ _ _ _ R6 hdp d6 q1
        rw [F6] at V2
        rw [w3, wi_wi] at e13
        have pq := (pX_pr hn _ _ _ _ _ _ _ wi.2 q1).2 (by omega)
        rw [e13]
        refine ih q' _ _ pq.2 v01 ?_ q2
        rw [vv]
        exact Vd_2 (by decide) V (Vd_mono (by unfold dA; simp) V2) (by unfold dA; omega)
    · have W : ¬ wrd T n 15 q = true := w1
      rw [if_neg W] at hR
      cases hR
      rw [wi_wi] at w3
      exact ⟨fun _ => ⟨i01, fin _ _ (by rw [w3]; exact mxK_wi) i01 ⟨w3, V⟩⟩, fun c => absurd w2 c⟩
theorem clA_232 {ev : Nat} (hA : clA 231 0 7 ev) : clA 232 1 8 ev := by
  intro d h Q G ok k
  have ok0 := ok
  obtain ⟨⟨T, n, p, R⟩, h01, hf, dp, hdp, hd, hev⟩ := ok
  have hn := R.1
  have hp := R.2.1
  obtain ⟨r, hr⟩ := pX_tot (T := T) hn 2000 1 dp [] p hp (by omega) (by simp; omega)
  have fin := pA_fin R hdp hd hr k
  rw [pX_1] at hr
  rw [show d + 8 + 3 * ev = d + 0 + 3 * ev + 8 by omega]
  refine tr_232_0 (ev := ev) (fun G ok k => by
      have := hA (d + 0) G ok k
      rw [show d + 0 + 7 + 3 * ev = d + 0 + 3 * ev + 7 by omega] at this
      exact this) G ⟨ok0, fun x2 h3 u3 => ?_⟩
  rcases bn_inr hr with ⟨e, q1, q2⟩ | ⟨w, q', q1, q2⟩
  · subst q2
    obtain ⟨z, hz, e3⟩ := u3.2.2 T n _ _ _ _ R hdp hd q1
    have he := pX_e hn _ _ _ _ _ _ hp q1
    refine tr_232_3 (ev := ev) (fun G ok k => by
      have := hA (d + 0) G ok k
      rw [show d + 0 + 7 + 3 * ev = d + 0 + 3 * ev + 7 by omega] at this
      exact this) (mxK_G u3.1 G) ⟨fun y => absurd y (by rw [e3, wi_at rfl rfl]; exact nI_ne1 (by omega)), fun _ => ⟨u3.2.1, fin _ _ u3.1 u3.2.1 ⟨z, hz, e3⟩⟩⟩
  · obtain ⟨e3, V⟩ := u3.2.2 T n _ _ _ _ R hdp hd q1
    have pq := (pX_pr hn _ _ _ _ _ _ _ hp q1).2 (by omega)
    rw [e3]
    exact H232 hA G R h01 hf hdp hd hev fin _ q' w x2 pq.2 u3.2.1 (Vd_mono (by unfold dA; simp) V) q2
theorem H233 {ev d n dp : Nat} {T : Nat → Int32} {h0 : mxH} {Q : mxO → mxH → Prop} {R : PR} {p0 : Nat} (hA : clA 232 1 8 ev) (G : mxG h0) (R0 : Rd h0 T n p0) (h01 : fc01 h0) (hf : mx_i h0 381 12 = -1) (hdp : dp ≤ 6) (hd : mx_i h0 381 13 = nI dp) (hev : 6 < dp + ev) (fin : ∀ x h1, mxK h0 h1 → (x = 0 ∨ x = 1) → outA h0 n (6 - dp) (dA 3 dp) R x h1 → Q (.inl (some (.int x))) h1) : ∀ (g q : Nat) (s : List Int32) (i1 : Int32), q ≤ n → (i1 = 0 ∨ i1 = 1) → Vd (Fh h0) s i1 (dA 3 dp) → pX T n g 4 dp s q = some R → H_233_3 (d + 1 + 3 * ev + 8) (mx_wi h0 381 11 (nI q)) i1 Q := by
  have hn := R0.1
  intro g
  induction g with
  | zero => intro q s i1 hq i01 V hR; cases hR
  | succ g ih =>
    intro q s i1 hq i01 V hR
    have Rq := Rd_at R0 hq
    have gq := sk_ge (T := T) (n := n) q
    have sq := sk_le (T := T) hq
    rw [show (4 : Nat) = 0 + 4 from rfl, pX_4] at hR
    refine tr_233_3 (ev := ev) (fun G ok k => by
      have := hA (d + 0) G ok k
      rw [show d + 0 + 8 + 3 * ev = d + 1 + 3 * ev + 7 by omega] at this
      exact this) (mxG_wi G) ⟨fun _ => ⟨⟨T, n, q, Rq⟩, by omega, fun x5 h6 u6 => ?_⟩, fun c => absurd (f_at.trans hf) c⟩
    rcases u6.2 T n _ 14 Rq (by decide) rfl with ⟨w1, w2, w3⟩ | ⟨w1, w2, w3⟩
    · rw [wi_wi] at w3
      have W : wrd T n 14 q = true := w1
      have wi := wrd_in (by decide) W
      rw [if_pos W] at hR
      refine ⟨fun c => absurd (w2.symm.trans c) (by decide), fun _ => ?_⟩
      have R6 : Rd h6 T n (sk T n q + wl 14) := by rw [w3]; exact Rd_at R0 wi.2
      have d6 : mx_i h6 381 13 = nI dp := by rw [w3, wi_nj (by decide)]; exact hd
      refine ⟨⟨⟨T, n, _, R6⟩, by rw [w3]; exact fc01_wi (by decide) h01, by rw [w3]; exact f_at.trans hf, dp, hdp, d6, hev⟩, fun x12 h13 u13 v16 e16 => ?_⟩
      have F6 : Fh h6 = Fh h0 := by rw [w3, Fh_wi (by decide)]
      have v01 : v16 = 0 ∨ v16 = 1 := by
        rw [e16]
        repeat' split
        all_goals first | exact .inl rfl | exact .inr rfl
      have vv : v16 = jn 1014 i1 x12 := by
        rcases i01 with q | q <;> rcases u13.2.1 with q' | q' <;> rw [e16, q, q'] <;> decide
      have K13 : mxK h0 h13 := mxK_tr (by rw [w3]; exact mxK_wi) u13.1
      rcases bn_inr hR with ⟨e, q1, q2⟩ | ⟨w, q', q1, q2⟩
      · subst q2
        obtain ⟨z, hz, e13⟩ := u13.2.2 T n _ _ _ _ R6 hdp d6 q1
        have he := pX_e hn _ _ _ _ _ _ wi.2 q1
        rw [w3, wi_wi] at e13
        refine tr_233_3 (ev := ev) (fun G ok k => by
          have := hA (d + 0) G ok k
          rw [show d + 0 + 8 + 3 * ev = d + 1 + 3 * ev + 7 by omega] at this
          exact this) (mxK_G K13 G) ⟨fun y => absurd y (by rw [e13, wi_at rfl rfl]; exact nI_ne1 (by omega)), fun _ => ⟨v01, fin _ _ K13 v01 ⟨z, hz, e13⟩⟩⟩
      · obtain ⟨e13, V2⟩ := u13.2.2 T n _ _ _ _ R6 hdp d6 q1
        rw [F6] at V2
        rw [w3, wi_wi] at e13
        have pq := (pX_pr hn _ _ _ _ _ _ _ wi.2 q1).2 (by omega)
        rw [e13]
        refine ih q' _ _ pq.2 v01 ?_ q2
        rw [vv]
        exact Vd_2 (by decide) V (Vd_mono (by unfold dA; simp) V2) (by unfold dA; omega)
    · have W : ¬ wrd T n 14 q = true := w1
      rw [if_neg W] at hR
      cases hR
      rw [wi_wi] at w3
      exact ⟨fun _ => ⟨i01, fin _ _ (by rw [w3]; exact mxK_wi) i01 ⟨w3, V⟩⟩, fun c => absurd w2 c⟩
theorem clA_233 {ev : Nat} (hA : clA 232 1 8 ev) : clA 233 3 9 ev := by
  intro d h Q G ok k
  have ok0 := ok
  obtain ⟨⟨T, n, p, R⟩, h01, hf, dp, hdp, hd, hev⟩ := ok
  have hn := R.1
  have hp := R.2.1
  obtain ⟨r, hr⟩ := pX_tot (T := T) hn 2000 3 dp [] p hp (by omega) (by simp; omega)
  have fin := pA_fin R hdp hd hr k
  rw [pX_3] at hr
  rw [show d + 9 + 3 * ev = d + 1 + 3 * ev + 8 by omega]
  refine tr_233_0 (ev := ev) (fun G ok k => by
      have := hA (d + 0) G ok k
      rw [show d + 0 + 8 + 3 * ev = d + 1 + 3 * ev + 7 by omega] at this
      exact this) G ⟨ok0, fun x2 h3 u3 => ?_⟩
  rcases bn_inr hr with ⟨e, q1, q2⟩ | ⟨w, q', q1, q2⟩
  · subst q2
    obtain ⟨z, hz, e3⟩ := u3.2.2 T n _ _ _ _ R hdp hd q1
    have he := pX_e hn _ _ _ _ _ _ hp q1
    refine tr_233_3 (ev := ev) (fun G ok k => by
      have := hA (d + 0) G ok k
      rw [show d + 0 + 8 + 3 * ev = d + 1 + 3 * ev + 7 by omega] at this
      exact this) (mxK_G u3.1 G) ⟨fun y => absurd y (by rw [e3, wi_at rfl rfl]; exact nI_ne1 (by omega)), fun _ => ⟨u3.2.1, fin _ _ u3.1 u3.2.1 ⟨z, hz, e3⟩⟩⟩
  · obtain ⟨e3, V⟩ := u3.2.2 T n _ _ _ _ R hdp hd q1
    have pq := (pX_pr hn _ _ _ _ _ _ _ hp q1).2 (by omega)
    rw [e3]
    exact H233 hA G R h01 hf hdp hd hev fin _ q' w x2 pq.2 u3.2.1 (Vd_mono (by unfold dA; simp) V) q2
theorem clA_all : ∀ ev, clA 231 0 7 ev ∧ clA 232 1 8 ev ∧ clA 233 3 9 ev := by
  intro ev
  induction ev with
  | zero =>
    have no : ∀ {h : mxH}, ¬ okA 0 h := fun {h} ⟨_, _, _, k, hk, _, h6⟩ => by omega
    exact ⟨fun d h Q G ok k => absurd ok no, fun d h Q G ok k => absurd ok no, fun d h Q G ok k => absurd ok no⟩
  | succ ev ih =>
    have a := clA_s ih.1 ih.2.2
    have b := clA_232 a
    exact ⟨a, b, clA_233 b⟩
/-- a condition, at the outermost level -/
def p233 (h : mxH) (x : Int32) (h1 : mxH) : Prop := mxK h h1 ∧ (x = 0 ∨ x = 1) ∧ ∀ T n p, Rd h T n p → outA h n 6 17 (cnd T n p) x h1
theorem sp_233 {d : Nat} {h : mxH} {Q : mxO → mxH → Prop} (G : mxG h) (ok : okT h) (hf : mx_i h 381 12 = -1) (h01 : fc01 h) (hd : mx_i h 381 13 = 0) (k : ∀ x h1, p233 h x h1 → Q (.inl (some (.int x))) h1) : mx_wp (d + 30) 233 0 (mx_fr 233 [.ref 381]) [] h Q := by
  refine (clA_all 7).2.2 d G ⟨ok, h01, hf, 0, by omega, hd, by omega⟩ (fun x h1 u => k x h1 ⟨u.1, u.2.1, fun T n p R => ?_⟩)
  exact u.2.2 T n p 0 1300 _ R (by omega) hd (cnd_x R.1 R.2.1)
