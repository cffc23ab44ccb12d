/-! OPS D: the law is told -/
section
variable {T : Nat → Int32} {n : Nat}
theorem pLine_b {p q : Nat} {L : LL} (h : pLine T n p = .inr (L, q)) : isR L.2.1 0 99 := by
  unfold pLine at h
  split at h
  · cases h
  · split at h
    · rename_i c
      have r : isR (numN T n _) 0 99 := ⟨by have := c.2.2.1; grind, by have := c.2.2.2; grind⟩
      split at h
      · split at h
        · cases h
        · cases h; exact r
      · cases h; exact r
    · cases h
theorem pLs_b (hn : n ≤ 400) : ∀ (j p : Nat) (M : List LL), p ≤ n → pLs T n j p = .inr M → M.length ≤ j ∧ (cdL M).length + p ≤ n ∧ Lb M := by
  intro j
  induction j with
  | zero => intro p M _ h; cases h
  | succ j ih =>
    intro p M hp h
    unfold pLs at h
    split at h
    · cases h
    · rename_i L q hl
      have lp := pLine_pr hn hp hl
      have lb := pLine_b hl
      have gq := sk_ge (T := T) (n := n) q
      split at h
      · rename_i lt
        split at h
        · split at h
          · cases h
          · rename_i M' hM
            cases h
            obtain ⟨a, b, c⟩ := ih _ _ (by omega) hM
            refine ⟨by rw [List.length_cons]; omega, ?_, ?_⟩
            · show (L.2.2 ++ cdL M').length + p ≤ n
              rw [List.length_append]; omega
            · intro K hK
              rcases List.mem_cons.mp hK with rfl | hK
              · exact lb
              · exact c K hK
        · cases h
      · cases h
        refine ⟨by simp, ?_, ?_⟩
        · show (L.2.2 ++ []).length + p ≤ n
          rw [List.append_nil]; omega
        · intro K hK
          rcases List.mem_cons.mp hK with rfl | hK
          · exact lb
          · cases hK
theorem pLaw_b (hn : n ≤ 400) {M : List LL} (h : pLaw T n = .inr M) : M.length ≤ 12 ∧ (cdL M).length ≤ 400 ∧ Lb M := by
  unfold pLaw at h
  split at h
  · have := pLs_b hn _ _ _ (Nat.zero_le _) h
    exact ⟨this.1, by omega, this.2.2⟩
  · cases h
    exact ⟨by simp, by simp [cdL], fun L hL => by cases hL⟩
theorem pLs_e (hn : n ≤ 400) : ∀ (j p e : Nat), p ≤ n → pLs T n j p = .inl e → e ≤ n := by
  intro j
  induction j with
  | zero => intro p e hp h; cases h; exact sk_le hp
  | succ j ih =>
    intro p e hp h
    unfold pLs at h
    split at h
    · rename_i e' hl
      cases h
      unfold pLine at hl
      split at hl
      · rename_i e2 hk
        cases hl
        unfold pKd at hk
        repeat' split at hk
        all_goals first | (cases hk; exact sk_le hp) | cases hk
      · rename_i v q hk
        have kp := pKd_pr hk
        split at hl
        · split at hl
          · rename_i w
            have w := wrd_in (by decide) w
            split at hl
            · rename_i e2 hc
              cases hl
              exact pX_e hn _ _ _ _ _ _ w.2 (by rw [cnd_x hn w.2, hc])
            · cases hl
          · cases hl
        · cases hl; exact sk_le kp.2
    · rename_i L q hl
      have lp := pLine_pr hn hp hl
      split at h
      · rename_i lt
        split at h
        · split at h
          · rename_i e2 hM
            cases h
            exact ih _ _ (by omega) hM
          · cases h
        · cases h; omega
      · cases h
theorem pLaw_e (hn : n ≤ 400) {e : Nat} (h : pLaw T n = .inl e) : e ≤ n := by
  unfold pLaw at h
  split at h
  · exact pLs_e hn _ _ _ (Nat.zero_le _) h
  · cases h
end
/-- the ints of one heap, all else of another -/
def ints (h h' : mxH) : mxH := (h.1, h.2.1, h.2.2.1, mx_i h', mx_r h, mx_l h)
theorem KpN_i {LW : mxLW} {h h1 : mxH} (e : mx_i h1 = mx_i h) (K : KpN LW h) : KpN LW h1 := by
  unfold KpN vw lw at *
  rw [e]; exact K
theorem RmN_i {h h1 : mxH} (e : mx_i h1 = mx_i h) (R : RmN h) : RmN h1 := by
  unfold RmN vw at *
  rw [e]; exact R
/-- the text that lies on the tape -/
theorem Tp_T {h : mxH} (t : TpN h) : ∃ (T : Nat → Int32) (n : Nat), Tx h T n ∧ mx_i h 101 1 = nI n ∧ mx_i h 381 8 = nI n ∧ ∀ k, k < n → mx_i h 386 k = T k := by
  obtain ⟨n, a1, a2, a3, a4⟩ := t
  refine ⟨fun k => if k < n then mx_i h 386 k else 0, n, ⟨a1, fun k hk => if_neg (by omega), fun k => ?_, fun k hk => ?_⟩, a2, a3, fun k hk => (if_pos hk).symm⟩
  · by_cases c : k < n
    · show isR (if k < n then mx_i h 386 k else 0) 0 255
      rw [if_pos c]; exact (a4 k c).1
    · show isR (if k < n then mx_i h 386 k else 0) 0 255
      rw [if_neg c]; exact ⟨by decide, by decide⟩
  · show _ = (if k < n then mx_i h 386 k else 0).toInt8.toInt32
    rw [if_pos hk]; exact (a4 k hk).2
theorem TpN_0 {h : mxH} (e1 : mx_i h 101 1 = 0) (e8 : mx_i h 381 8 = 0) : TpN h := ⟨0, by omega, e1, e8, fun k hk => by omega⟩
/-- only cell 381 is written, at 8 to 13 -/
def frA' (h h1 : mxH) : Prop := mxK h h1 ∧ (∀ b, b ≠ 381 → mx_i h1 b = mx_i h b) ∧ ∀ k, ¬ (8 ≤ k ∧ k ≤ 13) → mx_i h1 381 k = mx_i h 381 k
theorem W223_p {h : mxH} : frA' h (W_223 h) ∧ mx_i (W_223 h) 381 12 = -1 ∧ mx_i (W_223 h) 381 9 = -1 ∧ mx_i (W_223 h) 381 10 = mx_i h 381 8 ∧ mx_i (W_223 h) 381 8 = 0 ∧ mx_i (W_223 h) 381 11 = 0 ∧ mx_i (W_223 h) 381 13 = 0 := by
  unfold W_223
  refine ⟨⟨⟨rfl, rfl, rfl, rfl, rfl⟩, fun b hb => ?_, fun k hk => ?_⟩, ?_, ?_, ?_, ?_, ?_, ?_⟩
  · rw [wi_ne hb, wi_ne hb, wi_ne hb, wi_ne hb, wi_ne hb, wi_ne hb]
  · rw [wi_nj (by omega), wi_nj (by omega), wi_nj (by omega), wi_nj (by omega), wi_nj (by omega), wi_nj (by omega)]
  · rw [wi_nj (by decide), wi_nj (by decide), wi_nj (by decide), wi_nj (by decide), wi_nj (by decide), wi_at rfl rfl]
  · rw [wi_nj (by decide), wi_nj (by decide), wi_nj (by decide), wi_nj (by decide), wi_at rfl rfl]
  · rw [wi_nj (by decide), wi_nj (by decide), wi_nj (by decide), wi_at rfl rfl, wi_nj (by decide), wi_nj (by decide)]
  · rw [wi_nj (by decide), wi_nj (by decide), wi_at rfl rfl]
  · rw [wi_nj (by decide), wi_at rfl rfl]
  · rw [wi_at rfl rfl]
