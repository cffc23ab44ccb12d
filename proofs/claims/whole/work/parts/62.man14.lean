/-! SPECS by hand, 14: the class's text of the law; its tokens -/
def pLs (T : Nat → Int32) (n : Nat) : Nat → Nat → Sum Nat (List LL)
  | 0, p => .inl (sk T n p)
  | j + 1, p => match pLine T n p with
    | .inl e => .inl e
    | .inr (L, q) => if sk T n q < n then (if sgn T n 59 q = true then (match pLs T n j (sk T n q + 1) with
        | .inl e => .inl e
        | .inr M => .inr (L :: M)) else .inl (sk T n q)) else .inr [L]
def pLaw (T : Nat → Int32) (n : Nat) : Sum Nat (List LL) := if sk T n 0 < n then pLs T n 12 0 else .inr []
def frE (b : Nat) (h h1 : mxH) : Prop := mxU (fun c => c = 101 ∨ c = 107 ∨ c = 108 ∨ (b ≤ c ∧ c ≤ b + 4)) h h1 ∧ (∀ j, j ≠ 3 → mx_i h1 101 j = mx_i h 101 j)
def outT (b : Nat) (T : Nat → Int32) (n : Nat) (r : Sum Nat (List LL)) (x : Int32) (h1 : mxH) : Prop := match r with
  | .inl e => x = 0 ∧ ∃ p, Cl h1 T n p ∧ sk T n p = e
  | .inr M => x = 1 ∧ Li h1 b M ∧ mx_i h1 b 0 = 1 ∧ ∃ p, Cl h1 T n p
theorem V93_ob {h : mxH} {T : Nat → Int32} {n p : Nat} (C : Cl h T n p) : vp_in (mx_i h 101 3) 401 := (V97_ob C).1
theorem H30 {d b n : Nat} {T : Nat → Int32} {h0 : mxH} {Q : mxO → mxH → Prop} {R : Sum Nat (List LL)} (hVb : (mxT b).1 = 3) (k : ∀ x h1, frE b h0 h1 → outT b T n R x h1 → Q (.inl (some (.int x))) h1) : ∀ (j p : Nat) (Ls : List LL) (h : mxH), j + Ls.length = 12 → mxG h → Cl h T n p → p ≤ n → Li h b Ls → (cdL Ls).length ≤ p → mx_i h b 0 = 1 → frE b h0 h → (match pLs T n j p with
    | .inl e => .inl e
    | .inr M => .inr (Ls ++ M)) = R → H_30_9 (d + 6) h b (nI Ls.length) Q := by
  have hb := mxT3 hVb
  intro j
  induction j with
  | zero =>
    intro p Ls h hj G C hpn S hol h1 F hR
    have hR : Sum.inl (sk T n p) = R := hR
    refine tr_30_9 G hVb ⟨fun c => absurd ((nI_ltI (b := 12) (by omega) (by decide)).mp c) (by omega), fun _ => k _ _ F ?_⟩
    rw [← hR]
    exact ⟨rfl, p, C, rfl⟩
  | succ j ih =>
    intro p Ls h hj G C hpn S hol h1 F hR
    have hn := Cl_n C
    refine tr_30_9 G hVb ⟨fun _ => ⟨⟨(T, n, p, Ls), C, hpn, S, hol, by show Ls.length < 12; omega⟩, fun x3 h4 u4 => ?_⟩, fun c => absurd (show nI Ls.length < 12 from nI_lt (b := 12) (by omega) (by decide)) c⟩
    have z := u4.2 T n p Ls C hpn S hol (by omega)
    have F4 : frE b h0 h4 := ⟨mxU_tr F.1 u4.1.1, fun j hj => (u4.1.2.1 j hj).trans (F.2 j hj)⟩
    have G4 := mxU_G u4.1.1 G
    have e1 : mx_i h4 b 0 = 1 := u4.1.2.2.trans h1
    unfold pLs at hR
    match hl : pLine T n p with
    | .inl e =>
      rw [hl] at z hR
      have hR : Sum.inl e = R := hR
      refine ⟨fun _ => k _ _ F4 ?_, fun c => absurd z.1 c⟩
      rw [← hR]
      exact ⟨rfl, z.2⟩
    | .inr (L, q) =>
      rw [hl] at z hR
      obtain ⟨z1, z2, z3⟩ := z
      have lp := pLine_pr hn hpn hl
      have gq := sk_ge (T := T) (n := n) q
      have ll : (Ls ++ [L]).length = Ls.length + 1 := by simp
      have lc : (cdL (Ls ++ [L])).length = (cdL Ls).length + L.2.2.length := by
        rw [cdL_app, List.length_append]
        show _ + (L.2.2 ++ []).length = _
        rw [List.append_nil]
      refine ⟨fun c => absurd (z1.symm.trans c) (by decide), fun _ => ⟨V93_ob z2, ?_⟩⟩
      rw [V93_i z2]
      by_cases c : sk T n q < n
      · rw [if_pos c]
        simp only [if_pos c] at hR
        refine ⟨fun _ => ⟨⟨T, n, q, z2⟩, fun x11 h12 u12 => ?_⟩, fun y => absurd rfl y⟩
        have F12 : frE b h0 h12 := by
          have := frD_mv hb u12.1
          exact ⟨mxU_tr F4.1 this.1, fun j hj => (this.2.1 j hj).trans (F4.2 j hj)⟩
        rcases u12.2 T n q z2 (by unfold isSg; decide) with ⟨y1, y2, y3, y4⟩ | ⟨y1, y2, y3⟩
        · have sg : sgn T n 59 q = true := decide_eq_true ⟨y1, y2⟩
          simp only [if_pos sg] at hR
          refine ⟨fun w => absurd (y3.symm.trans w) (by decide), fun _ => ?_⟩
          rw [nI_1, ← ll]
          refine ih (sk T n q + 1) (Ls ++ [L]) h12 (by omega) (mxK_G (mvC_K u12.1) G4) y4 (by omega) (Li_mv hb u12.1 z3) (by omega) ?_ F12 ?_
          · exact ((frD_mv hb u12.1).2.2).trans e1
          · rw [← hR]
            match pLs T n j (sk T n q + 1) with
            | .inl e => rfl
            | .inr M => show Sum.inr (Ls ++ [L] ++ M) = Sum.inr (Ls ++ (L :: M)); simp
        · have sg : ¬ sgn T n 59 q = true := fun w => y1 (sgn_in w)
          simp only [if_neg sg] at hR
          refine ⟨fun _ => k _ _ F12 ?_, fun w => absurd y2 w⟩
          have hR : Sum.inl (sk T n q) = R := hR
          rw [← hR, y3]
          exact ⟨rfl, q, z2, rfl⟩
      · rw [if_neg c]
        simp only [if_neg c] at hR
        refine ⟨fun y => absurd y (by decide), fun _ => k _ _ F4 ?_⟩
        have hR : Sum.inr (Ls ++ [L]) = R := hR
        rw [← hR]
        exact ⟨rfl, z3, e1, q, z2⟩
def p30 (b : Nat) (h : mxH) (x : Int32) (h1 : mxH) : Prop := frE b h h1 ∧ ∀ T n, Cl h T n 0 → outT b T n (pLaw T n) x h1
theorem sp_30 {d b : Nat} {h : mxH} {Q : mxO → mxH → Prop} (G : mxG h) (hVb : (mxT b).1 = 3) (ok : ∃ T n, Cl h T n 0) (k : ∀ x h1, p30 b h x h1 → Q (.inl (some (.int x))) h1) : mx_wp (d + 6) 30 0 (mx_fr 30 [.ref 107, .ref 101, .ref b]) [] h Q := by
  have hb := mxT3 hVb
  obtain ⟨T0, n0, C0⟩ := ok
  refine all_mut (α := (Nat → Int32) × Nat) (P := fun a => Cl h a.1 a.2 0) (F := frE b h) (R := fun a x h1 => outT b a.1 a.2 (pLaw a.1 a.2) x h1) ⟨(T0, n0), C0⟩ (fun a C => ?_) (fun x h1 f r => k x h1 ⟨f, fun T n C => r (T, n) C⟩)
  obtain ⟨T, n⟩ := a
  have C : Cl h T n 0 := C
  refine tr_30_0 G hVb (fun h1 e1 => ?_)
  have U1 : mxU (fun c => c = b) h h1 := by
    rw [e1]; unfold W_21
    exact mxU_tr (mxU_tr (mxU_wi rfl) (mxU_wi rfl)) (mxU_wi rfl)
  have C1 : Cl h1 T n 0 := Cl_U U1 (fun c _ _ => by omega) C
  have F1 : frE b h h1 := ⟨mxU_mono (fun c hc => by omega) U1, fun j _ => by rw [mxU_i U1 (by omega)]⟩
  have i0 : mx_i h1 b 0 = 1 := by rw [e1]; unfold W_21; rw [wi_nj (by decide), wi_nj (by decide), wi_at rfl rfl]
  have S1 : Li h1 b [] := by
    refine ⟨?_, fun i hi => absurd hi (by simp), ?_, fun i hi => absurd hi (by simp [cdL])⟩
    · rw [e1]; unfold W_21; rw [wi_nj (by decide), wi_at rfl rfl]; rfl
    · rw [e1]; unfold W_21; rw [wi_at rfl rfl]; rfl
  refine ⟨V93_ob C1, ?_⟩
  rw [V93_i C1]
  by_cases c : sk T n 0 < n
  · rw [if_pos c]
    refine ⟨fun _ => ?_, fun y => absurd rfl y⟩
    refine H30 (R := pLaw T n) hVb (fun x h1 f r => ⟨x, rfl, f, r⟩) 12 0 [] h1 rfl (mxU_G U1 G) C1 (Nat.zero_le _) S1 (Nat.zero_le _) i0 F1 ?_
    unfold pLaw
    rw [if_pos c]
    match pLs T n 12 0 with
    | .inl e => rfl
    | .inr M => rfl
  · rw [if_neg c]
    refine ⟨fun y => absurd y (by decide), fun _ => ⟨1, rfl, F1, ?_⟩⟩
    show outT b T n (pLaw T n) 1 h1
    unfold pLaw
    rw [if_neg c]
    exact ⟨rfl, S1, i0, 0, C1⟩
