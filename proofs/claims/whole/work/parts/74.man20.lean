/-! SPECS by hand, 20: whether a line holds (the class); closing a text -/
theorem offL_s {Ls : List LL} {i : Nat} (hi : i < Ls.length) : offL Ls (i + 1) = offL Ls i + (Ls.getD i (0, 0, [])).2.2.length := by
  unfold offL
  rw [List.take_add_one, cdL_app, List.length_append, List.getElem?_eq_getElem hi, List.getD_eq_getElem?_getD, List.getElem?_eq_getElem hi]
  show _ + (Ls[i].2.2 ++ []).length = _
  rw [List.append_nil]; rfl
theorem offL_end {Ls : List LL} : offL Ls Ls.length = (cdL Ls).length := by unfold offL; rw [List.take_length]
theorem offL_get {Ls : List LL} {i k : Nat} (hi : i < Ls.length) (hk : k < (Ls.getD i (0, 0, [])).2.2.length) : (cdL Ls).getD (offL Ls i + k) 0 = (Ls.getD i (0, 0, [])).2.2.getD k 0 ∧ offL Ls i + k < (cdL Ls).length := by
  have e : Ls = Ls.take i ++ (Ls.getD i (0, 0, []) :: Ls.drop (i + 1)) := by
    rw [List.getD_eq_getElem?_getD, List.getElem?_eq_getElem hi]
    show Ls = Ls.take i ++ (Ls[i] :: Ls.drop (i + 1))
    rw [← List.drop_eq_getElem_cons hi, List.take_append_drop]
  generalize Ls.getD i (0, 0, []) = L at e hk ⊢
  have ec : cdL Ls = cdL (Ls.take i) ++ (L.2.2 ++ cdL (Ls.drop (i + 1))) := by
    conv => lhs; rw [e]
    rw [cdL_app]; rfl
  have eo : offL Ls i = (cdL (Ls.take i)).length := rfl
  rw [ec, eo]
  refine ⟨?_, by rw [List.length_append, List.length_append]; omega⟩
  rw [List.getD_eq_getElem?_getD, List.getElem?_append_right (by omega), Nat.add_sub_cancel_left, List.getElem?_append_left hk, List.getD_eq_getElem?_getD]
/-- the class's stack -/
def StA (h : mxH) (b : Nat) (st : List Int32) : Prop := ∀ i, i < st.length → mx_i h (b + 6) i = st.getD (st.length - 1 - i) 0
theorem StA_push {h : mxH} {b : Nat} {st : List Int32} {v : Int32} (S : StA h b st) : StA (mx_wi h (b + 6) st.length v) b (v :: st) := by
  intro i hi
  rw [List.length_cons] at hi ⊢
  by_cases e : i = st.length
  · subst e
    rw [wi_at rfl rfl, show st.length + 1 - 1 - st.length = 0 by omega]; rfl
  · rw [wi_nj e, S i (by omega), show st.length + 1 - 1 - i = (st.length - 1 - i) + 1 by omega]; rfl
theorem StA_top {h : mxH} {b : Nat} {st : List Int32} {v w : Int32} (S : StA h b (w :: st)) : StA (mx_wi h (b + 6) st.length v) b (v :: st) := by
  intro i hi
  rw [List.length_cons] at hi ⊢
  by_cases e : i = st.length
  · subst e
    rw [wi_at rfl rfl, show st.length + 1 - 1 - st.length = 0 by omega]; rfl
  · rw [wi_nj e, S i (by rw [List.length_cons]; omega), List.length_cons, show st.length + 1 - 1 - i = (st.length - 1 - i) + 1 by omega]; rfl
theorem StA_pop {h : mxH} {b : Nat} {st : List Int32} {w : Int32} (S : StA h b (w :: st)) : StA h b st := by
  intro i hi
  rw [S i (by rw [List.length_cons]; omega), List.length_cons, show st.length + 1 - 1 - i = (st.length - 1 - i) + 1 by omega]; rfl
theorem StA_at {h : mxH} {b : Nat} {st : List Int32} {w : Int32} (S : StA h b (w :: st)) : mx_i h (b + 6) st.length = w := by
  rw [S st.length (by rw [List.length_cons]; omega), List.length_cons, show st.length + 1 - 1 - st.length = 0 by omega]; rfl
theorem StA_U {h h1 : mxH} {b : Nat} {st : List Int32} {P : Nat → Prop} (u : mxU P h h1) (hp : ¬ P (b + 6)) (S : StA h b st) : StA h1 b st := fun i hi => by rw [mxU_i u hp]; exact S i hi
theorem V28_jn {h : mxH} {c x y : Int32} : V_28 h c x y = jn c x y := rfl
theorem rb1_len {F : Nat → Int32} {c : Int32} {st : List Int32} (h : st.length ≤ 64) : (rb1 F c st).length ≤ 64 := by
  unfold rb1
  split
  · rename_i q; rw [List.length_cons]; omega
  · split
    · split
      · rw [List.length_cons] at h ⊢; exact h
      · simp
    · split
      · split
        · rw [List.length_cons, List.length_cons] at h; rw [List.length_cons]; omega
        · exact h
      · exact h
theorem H27 {d b : Nat} {F : Nat → Int32} {h0 : mxH} {Q : mxO → mxH → Prop} {u : Nat} {fs : List Int32} (hVb : (mxT b).1 = 3) (hu : u ≤ 400) (fin : ∀ (h1 : mxH), mxU (fun c => c = b + 6) h0 h1 → ∀ st, StA h1 b st → st = fs → Q (.inl (some (.int (if nI st.length = 0 then 1 else (if mx_i h1 (b + 6) 0 = 0 then 0 else 1))))) h1) (VF : ∀ k, k < 9 → mx_i h0 (b + 5) k = F k) : ∀ (s : List Int32) (i : Nat) (st : List Int32) (h : mxH), i + s.length = u → mxG h → mxU (fun c => c = b + 6) h0 h → (∀ k, k < s.length → mx_i h0 (b + 4) (i + k) = s.getD k 0) → StA h b st → st.length ≤ 64 → rb F s st = fs → H_27_23 (d + 1) h b (nI u) (nI st.length) (nI i) Q := by
  intro s
  induction s with
  | nil =>
    intro i st h hi G U Cd S hl hr
    have hi : i = u := hi
    subst hi
    refine tr_27_23 G hVb ⟨fun c => absurd c Int32.lt_irrefl, fun _ v2 e2 => ?_⟩
    rw [e2]
    exact fin h U st S hr
  | cons c s ih =>
    intro i st h hi G U Cd S hl hr
    have hi : i + (s.length + 1) = u := hi
    have ec : mx_i h (b + 4) (nI i).toNatClampNeg = c := by
      rw [nI_clamp (by omega), mxU_i U (by omega)]
      have := Cd 0 (by simp)
      simpa using this
    have Cd' : ∀ k, k < s.length → mx_i h0 (b + 4) (i + 1 + k) = s.getD k 0 := fun k hk => by
      have := Cd (k + 1) (by simpa using hk)
      rw [show i + (k + 1) = i + 1 + k by omega] at this
      simpa using this
    have nx : ∀ (h' : mxH) (st' : List Int32), mxU (fun c => c = b + 6) h h' → StA h' b st' → rb1 F c st = st' → H_27_23 (d + 1) h' b (nI u) (nI st'.length) (nI i + 1) Q := by
      intro h' st' U' S' e
      rw [nI_1]
      refine ih (i + 1) st' h' (by omega) (mxU_G U' G) (mxU_tr U U') Cd' S' (by rw [← e]; exact rb1_len hl) ?_
      rw [← hr, ← e]; rfl
    have same : rb1 F c st = st → H_27_23 (d + 1) h b (nI u) (nI st.length) (nI i + 1) Q := nx h st mxU_rfl S
    have joinb : 1009 < c → ((nI st.length < 2 → H_27_23 (d + 1) h b (nI u) (nI st.length) (nI i + 1) Q) ∧ (¬ nI st.length < 2 → (vp_in ((nI st.length + (-1)) - 1) 64 ∧ vp_in (nI st.length + (-1)) 64 ∧ (∀ h20, h20 = mx_wi h (b + 6) ((nI st.length + (-1)) - 1).toNatClampNeg (V_28 h c (mx_i h (b + 6) ((nI st.length + (-1)) - 1).toNatClampNeg) (mx_i h (b + 6) (nI st.length + (-1)).toNatClampNeg)) → H_27_23 (d + 1) h20 b (nI u) (nI st.length + (-1)) (nI i + 1) Q)))) := by
      intro hc
      have n1 : ∀ l : Nat, ¬ (¬ 1008 < c ∧ l < 64) := fun l q => q.1 (by have := hc; grind)
      have n2 : ¬ c = 1009 := fun q => by rw [q] at hc; exact absurd hc (by decide)
      match st, S, hl, nx, same with
      | [], S, hl, nx, same =>
        exact ⟨fun _ => same (by unfold rb1; rw [if_neg (n1 _), if_neg n2, if_pos hc]), fun y => absurd (by decide) y⟩
      | [x], S, hl, nx, same =>
        exact ⟨fun _ => same (by unfold rb1; rw [if_neg (n1 _), if_neg n2, if_pos hc]), fun y => absurd (show nI [x].length < 2 from (by decide : nI 1 < 2)) y⟩
      | y :: x :: r, S, hl, nx, same =>
        have hl : r.length + 1 + 1 ≤ 64 := hl
        have e1 : nI (y :: x :: r).length + (-1) = nI (r.length + 1) := by rw [List.length_cons, List.length_cons, ← nI_1, Int32.add_assoc]; exact Int32.add_zero _
        have e2 : nI (r.length + 1) - 1 = nI r.length := by rw [show (1 : Int32) = nI 1 from rfl, nI_sb (by omega)]; rfl
        rw [e1, e2, nI_clamp (by omega), nI_clamp (by omega)]
        refine ⟨fun q => absurd ((nI_ltI (b := 2) (by omega) (by decide)).mp q) (by rw [List.length_cons, List.length_cons]; omega), fun _ => ⟨vp_in_nI (by omega) (by decide), vp_in_nI (by omega) (by decide), fun h20 e20 => ?_⟩⟩
        have a1 := StA_at S
        have a2 := StA_at (StA_pop S)
        rw [List.length_cons] at a1
        rw [a1, a2, V28_jn] at e20
        have := nx h20 (jn c x y :: r) (by rw [e20]; exact mxU_wi rfl) (by rw [e20]; exact StA_top (StA_pop S)) (by unfold rb1; rw [if_neg (n1 _), if_neg n2, if_pos hc])
        exact this
    have notb : c = 1009 → ((nI st.length < 1 → H_27_23 (d + 1) h b (nI u) (nI st.length) (nI i + 1) Q) ∧ (¬ nI st.length < 1 → (vp_in (nI st.length - 1) 64 ∧ (∀ h24, h24 = mx_wi h (b + 6) (nI st.length - 1).toNatClampNeg (1 - (mx_i h (b + 6) (nI st.length - 1).toNatClampNeg)) → H_27_23 (d + 1) h24 b (nI u) (nI st.length) (nI i + 1) Q)))) := by
      intro hc
      have n1 : ∀ l : Nat, ¬ (¬ 1008 < c ∧ l < 64) := fun l q => q.1 (by rw [hc]; decide)
      match st, S, hl, nx, same with
      | [], S, hl, nx, same =>
        exact ⟨fun _ => same (by unfold rb1; rw [if_neg (n1 _), if_pos hc]), fun y => absurd (by decide) y⟩
      | x :: r, S, hl, nx, same =>
        have hl : r.length + 1 ≤ 64 := hl
        have e2 : nI (x :: r).length - 1 = nI r.length := by rw [List.length_cons, show (1 : Int32) = nI 1 from rfl, nI_sb (by omega)]; rfl
        rw [e2, nI_clamp (by omega)]
        refine ⟨fun q => absurd ((nI_ltI (b := 1) (by rw [List.length_cons]; omega) (by decide)).mp q) (by rw [List.length_cons]; omega), fun _ => ⟨vp_in_nI (by omega) (by decide), fun h24 e24 => ?_⟩⟩
        rw [StA_at S] at e24
        exact nx h24 ((1 - x) :: r) (by rw [e24]; exact mxU_wi rfl) (by rw [e24]; exact StA_top S) (by unfold rb1; rw [if_neg (n1 _), if_pos hc])
    refine tr_27_23 G hVb ⟨fun _ => ⟨vp_in_nI (by omega) (by decide), ?_⟩, fun q => absurd (nI_lt (by omega) (by omega)) q⟩
    rw [ec]
    have tail : ((c = 1009 → ((nI st.length < 1 → ((1009 < c → ((nI st.length < 2 → H_27_23 (d + 1) h b (nI u) (nI st.length) (nI i + 1) Q) ∧ (¬ nI st.length < 2 → (vp_in ((nI st.length + (-1)) - 1) 64 ∧ vp_in (nI st.length + (-1)) 64 ∧ (∀ h20, h20 = mx_wi h (b + 6) ((nI st.length + (-1)) - 1).toNatClampNeg (V_28 h c (mx_i h (b + 6) ((nI st.length + (-1)) - 1).toNatClampNeg) (mx_i h (b + 6) (nI st.length + (-1)).toNatClampNeg)) → H_27_23 (d + 1) h20 b (nI u) (nI st.length + (-1)) (nI i + 1) Q))))) ∧ (¬ 1009 < c → H_27_23 (d + 1) h b (nI u) (nI st.length) (nI i + 1) Q))) ∧ (¬ nI st.length < 1 → (vp_in (nI st.length - 1) 64 ∧ (∀ h24, h24 = mx_wi h (b + 6) (nI st.length - 1).toNatClampNeg (1 - (mx_i h (b + 6) (nI st.length - 1).toNatClampNeg)) → H_27_23 (d + 1) h24 b (nI u) (nI st.length) (nI i + 1) Q))))) ∧ (¬ c = 1009 → ((1009 < c → ((nI st.length < 2 → H_27_23 (d + 1) h b (nI u) (nI st.length) (nI i + 1) Q) ∧ (¬ nI st.length < 2 → (vp_in ((nI st.length + (-1)) - 1) 64 ∧ vp_in (nI st.length + (-1)) 64 ∧ (∀ h20, h20 = mx_wi h (b + 6) ((nI st.length + (-1)) - 1).toNatClampNeg (V_28 h c (mx_i h (b + 6) ((nI st.length + (-1)) - 1).toNatClampNeg) (mx_i h (b + 6) (nI st.length + (-1)).toNatClampNeg)) → H_27_23 (d + 1) h20 b (nI u) (nI st.length + (-1)) (nI i + 1) Q))))) ∧ (¬ 1009 < c → rb1 F c st = st → H_27_23 (d + 1) h b (nI u) (nI st.length) (nI i + 1) Q)))) := by
      refine ⟨fun e => ⟨fun l => ⟨fun q => by rw [e] at q; exact absurd q (by decide), fun _ => (notb e).1 l⟩, (notb e).2⟩, fun _ => ⟨joinb, fun _ => same⟩⟩
    refine ⟨fun gt => ⟨tail.1, fun ne => ⟨(tail.2 ne).1, fun q => absurd (show (1009 : Int32) < c by grind) q⟩⟩, fun le => ⟨fun lt => ?_, fun nlt => ⟨tail.1, fun ne => ⟨(tail.2 ne).1, fun q => same ?_⟩⟩⟩⟩
    · have lt : st.length < 64 := (nI_ltI (b := 64) (by omega) (by decide)).mp lt
      refine ⟨⟨fun _ => trivial, fun ge => ⟨?_, trivial⟩⟩, fun v48 e48 => ⟨vp_in_nI lt (by decide), fun h50 e50 => ?_⟩⟩
      · have : isI (c - 1000) 9 := ⟨by grind, by grind⟩
        exact vp_of_isI (n := 9) (by decide) (by decide) (Nat.le_refl _) this
      · rw [nI_clamp (by omega)] at e50
        rw [nI_1]
        refine nx h50 (v48 :: st) (by rw [e50]; exact mxU_wi rfl) (by rw [e50]; exact StA_push S) ?_
        unfold rb1
        rw [if_pos ⟨le, lt⟩, e48]
        unfold cv
        by_cases cc : c < 1000
        · rw [if_pos cc, if_pos cc]
        · rw [if_neg cc, if_neg cc]
          congr 1
          have : isI (c - 1000) 9 := ⟨by grind, by grind⟩
          have lt9 := vp_lt (vp_of_isI (n := 9) (m := 9) (by decide) (by decide) (Nat.le_refl _) this)
          rw [mxU_i U (by omega), VF _ lt9]
    · unfold rb1
      have : ¬ (st.length < 64) := fun y => nlt (nI_lt (b := 64) y (by decide))
      rw [if_neg (fun y => this y.2), if_neg ne, if_neg q]
def okF (h : mxH) (b : Nat) (i1 : Int32) : Prop := ∃ (a : (Nat → Int32) × List LL × Nat), Li h b a.2.1 ∧ (cdL a.2.1).length ≤ 400 ∧ a.2.1.length ≤ 12 ∧ (∀ k, k < 9 → mx_i h (b + 5) k = a.1 k) ∧ a.2.2 < a.2.1.length ∧ i1 = nI a.2.2
def p27 (b : Nat) (i1 : Int32) (h : mxH) (x : Int32) (h1 : mxH) : Prop := mxU (fun c => c = b + 6) h h1 ∧ ∀ F Ls i, Li h b Ls → (cdL Ls).length ≤ 400 → Ls.length ≤ 12 → (∀ k, k < 9 → mx_i h (b + 5) k = F k) → i < Ls.length → i1 = nI i → x = if hl F (Ls.getD i (0, 0, [])).2.2 = true then 1 else 0
theorem sp_27 {d b : Nat} {h : mxH} {Q : mxO → mxH → Prop} {i1 : Int32} (G : mxG h) (hVb : (mxT b).1 = 3) (ok : okF h b i1) (k : ∀ x h1, p27 b i1 h x h1 → Q (.inl (some (.int x))) h1) : mx_wp (d + 1) 27 0 (mx_fr 27 [.ref b, .int i1]) [] h Q := by
  refine all_mut (F := mxU (fun c => c = b + 6) h) (R := fun a x h1 => x = if hl a.1 (a.2.1.getD a.2.2 (0, 0, [])).2.2 = true then 1 else 0) ok (fun a pa => ?_) (fun x h1 f r => k x h1 ⟨f, fun F Ls i a1 a2 a3 a4 a5 a6 => r (F, Ls, i) ⟨a1, a2, a3, a4, a5, a6⟩⟩)
  obtain ⟨F, Ls, i⟩ := a
  obtain ⟨S, hc, hL, VF, hi, e1⟩ := pa
  have S : Li h b Ls := S
  have hc : (cdL Ls).length ≤ 400 := hc
  have hL : Ls.length ≤ 12 := hL
  have hi : i < Ls.length := hi
  have e1 : i1 = nI i := e1
  subst e1
  obtain ⟨s1, s2, s3, s4⟩ := S
  have os := offL_s hi
  have v1e : (if (nI i + 1) < (mx_i h b 1) then (mx_i h (b + 3) (nI i + 1).toNatClampNeg) else (mx_i h b 2)) = nI (offL Ls i + (Ls.getD i (0, 0, [])).2.2.length) := by
    rw [nI_1, s1, ← os]
    by_cases c : i + 1 < Ls.length
    · rw [if_pos (nI_lt c (by omega)), nI_clamp (by omega)]
      exact (s2 _ c).2.2
    · rw [if_neg (fun q => c ((nI_ltI (by omega) (by omega)).mp q)), s3, show i + 1 = Ls.length by omega, offL_end]
  have ub : offL Ls i + (Ls.getD i (0, 0, [])).2.2.length ≤ 400 := by
    rw [← os]
    unfold offL
    have : cdL Ls = cdL (Ls.take (i + 1)) ++ cdL (Ls.drop (i + 1)) := by rw [← cdL_app, List.take_append_drop]
    have := congrArg List.length this
    rw [List.length_append] at this
    omega
  refine tr_27_0 G hVb ⟨⟨fun q => ⟨?_, trivial⟩, fun _ => trivial⟩, fun v1 ev1 => ⟨vp_in_nI (by omega) (by decide), ?_⟩⟩
  · rw [nI_1, s1] at q
    have := (nI_ltI (by omega) (by omega)).mp q
    rw [nI_1]
    exact vp_in_nI (by omega) (by decide)
  · rw [ev1, v1e, nI_clamp (by omega), (s2 i hi).2.2]
    refine H27 (F := F) (h0 := h) (fs := rb F (Ls.getD i (0, 0, [])).2.2 []) hVb ub (fun h1 U st S e => ⟨_, rfl, U, ?_⟩) VF (Ls.getD i (0, 0, [])).2.2 (offL Ls i) [] h rfl G mxU_rfl (fun k hk => ?_) (fun i hi => absurd hi (Nat.not_lt_zero _)) (Nat.zero_le _) rfl
    · have := offL_get hi hk
      rw [s4 _ this.2]
      exact this.1
    · unfold hl
      rw [← e]
      have hl64 : st.length ≤ 64 := by
        rw [e]
        have : ∀ (s st : List Int32), st.length ≤ 64 → (rb F s st).length ≤ 64 := by
          intro s
          induction s with
          | nil => intro st h; exact h
          | cons c s ih => intro st h; exact ih _ (rb1_len h)
        exact this _ [] (Nat.zero_le _)
      match hrv : st.reverse with
      | [] =>
        have : st = [] := List.reverse_eq_nil_iff.mp hrv
        rw [this]; rfl
      | x :: r =>
        have es : st = r.reverse ++ [x] := by
          have := congrArg List.reverse hrv
          rw [List.reverse_reverse] at this
          rw [this]; simp
        have hlen : st.length = r.length + 1 := by rw [es]; simp
        have e0 : mx_i h1 (b + 6) 0 = x := by
          rw [S 0 (by omega), hlen, es, List.getD_eq_getElem?_getD, List.getElem?_append_right (by simp)]
          simp
        rw [hlen, if_neg (show ¬ nI (r.length + 1) = 0 from fun q => by
          have := (nI_eq (b := 0) (by omega) (by decide)).mp q
          omega), e0]
        by_cases z : x = 0
        · simp [z]
        · simp [z]
