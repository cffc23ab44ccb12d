/-! ACTS: what both remember, and how a coupled state goes on -/
section
variable {v v' : Nat → Nat → Int32} {r r' : Nat → Int32} {np ns nl : Nat}
theorem Cp0_c (h1 : v' 1 0 = v 1 0) (h7 : v' 7 0 = v 7 0) (h13 : v' 13 0 = v 13 0) (r3 : r' 3 = r 3) (r4 : r' 4 = r 4) (r7 : r' 7 = r 7) (C : Cp0 v r np ns nl) : Cp0 v' r' np ns nl := by
  unfold Cp0; rw [h1, h7, h13, r3, r4, r7]; exact C
theorem Cp1_c (h5 : v' 0 5 = v 0 5) (h6 : v' 0 6 = v 0 6) (h7 : v' 0 7 = v 0 7) (h8 : v' 0 8 = v 0 8) (r0 : r' 0 = r 0) (r5 : r' 5 = r 5) (r6 : r' 6 = r 6) (r8 : r' 8 = r 8) (C : Cp1 v r) : Cp1 v' r' := by
  unfold Cp1; rw [h5, h6, h7, h8, r0, r5, r6, r8]; exact C
theorem Cp2_c (h4 : v' 0 4 = v 0 4) (hv : ∀ p, p < 12 → v' 15 p = v 15 p) (hr : ∀ k, 9 ≤ k → k < 33 → r' k = r k) (C : Cp2 v r) : Cp2 v' r' := fun p hp => by
  rw [h4, hv p hp, hr (9 + p) (by omega) (by omega), hr (21 + p) (by omega) (by omega)]; exact C p hp
theorem CpU_c (hn : np ≤ 6) (h6 : v' 1 6 = v 1 6) (hv : ∀ k x, 2 ≤ k → k ≤ 6 → x < 6 → v' k x = v k x) (hr : ∀ k, 33 ≤ k → k < 69 → r' k = r k) (C : CpU v r np) : CpU v' r' np := by
  refine ⟨by rw [h6]; exact C.1, fun x hx => ?_⟩
  rw [h6, hv 2 x (by omega) (by omega) (by omega), hv 3 x (by omega) (by omega) (by omega), hv 4 x (by omega) (by omega) (by omega), hv 5 x (by omega) (by omega) (by omega), hv 6 x (by omega) (by omega) (by omega), hr (33 + 6 * x + 0) (by omega) (by omega), hr (33 + 6 * x + 1) (by omega) (by omega), hr (33 + 6 * x + 2) (by omega) (by omega), hr (33 + 6 * x + 3) (by omega) (by omega), hr (33 + 6 * x + 4) (by omega) (by omega), hr (33 + 6 * x + 5) (by omega) (by omega)]
  exact C.2 x hx
theorem CpS_c (hn : ns ≤ 10) (hv : ∀ k z, 8 ≤ k → k ≤ 12 → z < 10 → v' k z = v k z) (hr : ∀ k, 69 ≤ k → k < 129 → r' k = r k) (C : CpS v r np ns) : CpS v' r' np ns := fun z hz => by
  rw [hv 8 z (by omega) (by omega) (by omega), hv 9 z (by omega) (by omega) (by omega), hv 10 z (by omega) (by omega) (by omega), hv 11 z (by omega) (by omega) (by omega), hv 12 z (by omega) (by omega) (by omega), hr (69 + 6 * z + 0) (by omega) (by omega), hr (69 + 6 * z + 1) (by omega) (by omega), hr (69 + 6 * z + 2) (by omega) (by omega), hr (69 + 6 * z + 3) (by omega) (by omega), hr (69 + 6 * z + 4) (by omega) (by omega), hr (69 + 6 * z + 5) (by omega) (by omega)]
  exact C z hz
theorem CpL_c (hn : nl ≤ 60) (hv : ∀ j, j < 240 → v' 14 j = v 14 j) (hr : ∀ k, 129 ≤ k → k < 369 → r' k = r k) (C : CpL v r nl) : CpL v' r' nl := fun g w hg hw => by
  rw [hv _ (by omega), hr _ (by omega) (by omega)]; exact C g w hg hw
end
/-- an act: the class has remembered and changed its valley; the reference has said that nothing is thrown, remembered, and changed its row -/
theorem Inv_act {LW : mxLW} (ok : LWok LW) {h h1 hm h3 h4 h5 : mxH} {vn vd vr vq np ns nl np' ns' nl' : Nat} (I : Inv LW h vn vd vr vq np ns nl) (R1 : rmC vn h h1) (u2 : agr (fun b => vn ≤ b ∧ b < vn + 16) h1 hm) (u3 : agr (fun b => b = 381) hm h3) (f3 : ∀ j, j ≠ 0 → mx_i h3 381 j = mx_i hm 381 j) (R4 : rmM h3 h4) (u5 : agr (fun b => b = 382) h4 h5) (hr : ∀ k, k = 1 ∨ k = 2 ∨ (369 ≤ k ∧ k < 769) → mx_i h5 382 k = mx_i h4 382 k) (C : CpN (vw h5 vn) (mx_i h5 382) np' ns' nl') : Inv LW h5 vn vd vr vq np' ns' nl' := by
  obtain ⟨G, S, C0, W, T, F, R, K⟩ := I
  have hS := S.2.2.2.2
  have a1 := agr_U R1.1
  have a4 := agr_U R4.1
  -- all together
  have U : agr (fun b => b = 100 ∨ (189 ≤ b ∧ b < 381) ∨ (vn ≤ b ∧ b < vn + 16) ∨ b = 381 ∨ b = 385 ∨ b = 382) h h5 := by
    refine agr_tr (agr_mono (fun b hb => ?_) a1) (agr_tr (agr_mono (fun b hb => ?_) u2) (agr_tr (agr_mono (fun b hb => ?_) u3) (agr_tr (agr_mono (fun b hb => ?_) a4) (agr_mono (fun b hb => ?_) u5)))) <;> omega
  have i100 : mx_i h5 100 = mx_i h1 100 := by
    rw [u5.2.2 100 (by omega), a4.2.2 100 (by omega), u3.2.2 100 (by omega), u2.2.2 100 (by omega)]
  have m382 : mx_i h4 382 = mx_i h 382 := by
    rw [a4.2.2 382 (by omega), u3.2.2 382 (by omega), u2.2.2 382 (by omega), a1.2.2 382 (by omega)]
  have i381 : ∀ j, j ≠ 0 → j ≠ 6 → mx_i h5 381 j = mx_i h 381 j := fun j j0 j6 => by
    rw [u5.2.2 381 (by omega), R4.2.1 j j6, f3 j j0, u2.2.2 381 (by omega), a1.2.2 381 (by omega)]
  have i3816 : mx_i h3 381 6 = mx_i h 381 6 := by
    rw [f3 6 (by decide), u2.2.2 381 (by omega), a1.2.2 381 (by omega)]
  have r1 : mx_i h5 382 1 = mx_i h 382 1 := by rw [hr 1 (by omega), m382]
  have r2 : mx_i h5 382 2 = mx_i h 382 2 := by rw [hr 2 (by omega), m382]
  refine ⟨agr_G U G, agr_S U S, C, ?_, ?_, ?_, ?_, ?_⟩
  · exact W_agr ok U (by omega) (fun k hk => by rw [hr k hk, m382]) W
  · refine T_agr U (by omega) (by omega) ?_ (i381 8 (by decide) (by decide)) T
    rw [U.2.2 101 (by omega)]
  · rw [i381 12 (by decide) (by decide), i100, R1.2.1 14 (by decide) (by decide)]; exact F
  · obtain ⟨f, c, g1, g2, g3, g4, g5, g6⟩ := R
    obtain ⟨f', c', q1, q2, q3, q4, q5, q6, q7⟩ := R1.2.2 f c g1 g2 g3 g4
    have R4c := R4.2.2 c (i3816.trans g5)
    have i385 : mx_i h5 385 = mx_i h4 385 := u5.2.2 385 (by omega)
    have j385 : mx_i h3 385 = mx_i h 385 := by rw [u3.2.2 385 (by omega), u2.2.2 385 (by omega), a1.2.2 385 (by omega)]
    have j382 : mx_i h3 382 = mx_i h 382 := by rw [u3.2.2 382 (by omega), u2.2.2 382 (by omega), a1.2.2 382 (by omega)]
    have rb : ∀ b, 189 ≤ b → b < 381 → mx_i h5 b = mx_i h1 b := fun b b1 b2 => by
      rw [u5.2.2 b (by omega), a4.2.2 b (by omega), u3.2.2 b (by omega), u2.2.2 b (by omega)]
    have hmod := Nat.mod_lt (f + c) (show 12 > 0 by decide)
    -- the one that is remembered now
    have new : ∃ np ns nl, CpN (vw h5 (189 + 16 * ((f + c) % 12))) (mx_i h 382) np ns nl := ⟨np, ns, nl, CpN_congr (fun k j hk => by
      show mx_i h5 (189 + 16 * ((f + c) % 12) + k) j = mx_i h (vn + k) j
      rw [rb _ (by omega) (by unfold inV at hk; omega), q7 k j hk]) (fun _ _ _ _ => rfl) C0⟩
    have old : ∀ i w, w < 12 → w ≠ (f + c) % 12 → (∃ np ns nl, CpN (vw h (189 + 16 * w)) (fun k => mx_i h 385 (369 * i + k)) np ns nl) → ∃ np ns nl, CpN (vw h5 (189 + 16 * w)) (fun k => mx_i h 385 (369 * i + k)) np ns nl := by
      rintro i w hw hne ⟨x1, x2, x3, x4⟩
      refine ⟨x1, x2, x3, CpN_congr (fun k j hk => ?_) (fun _ _ _ _ => rfl) x4⟩
      show mx_i h5 (189 + 16 * w + k) j = mx_i h (189 + 16 * w + k) j
      rw [rb _ (by omega) (by unfold inV at hk; omega), q6 _ (by omega) (by unfold inV at hk; omega) (by unfold inV at hk; omega)]
    have cong : ∀ (w : Nat) (s s' : Nat → Int32), (∀ k, k < 369 → s' k = s k) → (∃ np ns nl, CpN (vw h5 w) s np ns nl) → ∃ np ns nl, CpN (vw h5 w) s' np ns nl := by
      rintro w s s' hs ⟨x1, x2, x3, x4⟩
      exact ⟨x1, x2, x3, CpN_congr (fun _ _ _ => rfl) (fun k hk _ _ => hs k hk) x4⟩
    rcases Nat.lt_or_ge c 12 with hc | hc
    · obtain ⟨rfl, rfl⟩ := q4 hc
      obtain ⟨p1, p2, p3⟩ := R4c.1 hc
      refine ⟨f', c + 1, q1, by omega, by rw [i100]; exact q2, by rw [i100]; exact q3, by rw [u5.2.2 381 (by omega)]; exact p1, fun i hi => ?_⟩
      rw [r1, r2, i385]
      rcases Nat.lt_or_ge i c with hic | hic
      · obtain ⟨y1, y2, y3⟩ := g6 i hic
        rw [p2 i 1 hic (by omega), p2 i 2 hic (by omega), j385]
        refine ⟨cong _ _ _ (fun k hk => ?_) (old i _ (Nat.mod_lt _ (by decide)) (by omega) y1), y2, y3⟩
        rw [p2 i k hic hk, j385]
      · have hic : i = c := by omega
        subst hic
        rw [p3 1 (by omega), p3 2 (by omega), j382]
        refine ⟨cong _ _ _ (fun k hk => ?_) new, rfl, rfl⟩
        rw [p3 k hk, j382]
    · have hc : c = 12 := by omega
      subst hc
      obtain ⟨rfl, rfl⟩ := q5 rfl
      obtain ⟨p1, p2, p3⟩ := R4c.2 rfl
      refine ⟨(f + 1) % 12, 12, q1, by omega, by rw [i100]; exact q2, by rw [i100]; exact q3, by rw [u5.2.2 381 (by omega)]; exact p1, fun i hi => ?_⟩
      rw [r1, r2, i385]
      rcases Nat.lt_or_ge i 11 with hic | hic
      · obtain ⟨y1, y2, y3⟩ := g6 (i + 1) (by omega)
        have es : ((f + 1) % 12 + i) % 12 = (f + (i + 1)) % 12 := by omega
        rw [p2 i 1 hic (by omega), p2 i 2 hic (by omega), j385, es]
        refine ⟨cong _ _ _ (fun k hk => ?_) (old (i + 1) _ (Nat.mod_lt _ (by decide)) (by omega) y1), y2, y3⟩
        rw [p2 i k hic hk, j385]
      · have hic : i = 11 := by omega
        subst hic
        have es : ((f + 1) % 12 + 11) % 12 = (f + 12) % 12 := by omega
        rw [p3 1 (by omega), p3 2 (by omega), j382, es]
        refine ⟨cong _ _ _ (fun k hk => ?_) new, rfl, rfl⟩
        rw [p3 k hk, j382]
  · exact K_agr ok U (by omega) (by omega) (by rw [i100, R1.2.1 10 (by decide) (by decide)]) (i381 3 (by decide) (by decide)) K
/-- what the class needs to remember -/
theorem I_rem {LW : mxLW} {h : mxH} {vn vd vr vq np ns nl : Nat} (I : Inv LW h vn vd vr vq np ns nl) : cB (mx_i h 100 12) 11 ∧ cB (mx_i h 100 13) 12 ∧ cB (mx_i h 381 6) 12 := by
  obtain ⟨f, c, a1, a2, a3, a4, a5, a6⟩ := I.2.2.2.2.2.2.1
  exact ⟨⟨f, by omega, a3⟩, ⟨c, a2, a4⟩, ⟨c, a2, a5⟩⟩
